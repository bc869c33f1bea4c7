/-! ===== a state forgotten, blocks shared ===== -/
theorem smN_add {f g : Int → Int} : ∀ n : Nat, smN (fun j => f j + g j) n = smN f n + smN g n
  | 0 => rfl
  | n + 1 => by
    show smN (fun j => f j + g j) n + (f n + g n) = (smN f n + f n) + (smN g n + g n)
    rw [smN_add n]; omega
theorem sm_add {n : Int} {f g : Int → Int} : sm n (fun j => f j + g j) = sm n f + sm n g := smN_add _
def sgK (a k : Int) : Int := if k < a then k else k + 1
theorem sgK_lt {a k : Int} (h : k < a) : sgK a k = k := if_pos h
theorem sgK_ge {a k : Int} (h : a ≤ k) : sgK a k = k + 1 := if_neg (by omega)
theorem sgK_bd {a k n : Int} (k0 : 0 ≤ k) (k1 : k < n - 1) (_a0 : 0 ≤ a) : 0 ≤ sgK a k ∧ sgK a k < n ∧ sgK a k ≠ a ∧ (k < a ∧ sgK a k = k ∨ a ≤ k ∧ sgK a k = k + 1) := by
  rcases Int.lt_or_le k a with q | q
  · rw [sgK_lt q]; omega
  · rw [sgK_ge q]; omega
theorem sgK_on {a n c : Int} (c0 : 0 ≤ c) (c1 : c < n) (hc : c ≠ a) (_a0 : 0 ≤ a) (a1 : a < n) : ∃ k, 0 ≤ k ∧ k < n - 1 ∧ sgK a k = c := by
  rcases Int.lt_or_le c a with q | q
  · exact ⟨c, c0, by omega, sgK_lt q⟩
  · exact ⟨c - 1, by omega, by omega, by rw [sgK_ge (by omega)]; omega⟩
theorem sm_del {n a : Int} {g : Int → Int} (a0 : 0 ≤ a) (a1 : a < n) : sm (n - 1) (fun k => g (sgK a k)) + g a = sm n g := by
  have key : ∀ m : Nat, sm (a + m) (fun k => g (sgK a k)) + g a = sm (a + m + 1) g := by
    intro m
    induction m with
    | zero =>
      have e : a + ((0 : Nat) : Int) = a := by omega
      rw [e, sm_s a0, sm_congr (g := g) (fun j j0 j1 => by rw [sgK_lt j1])]
    | succ m ih =>
      have e : a + ((m + 1 : Nat) : Int) = a + m + 1 := by omega
      rw [e, sm_s (f := fun k => g (sgK a k)) (by omega), sm_s (f := g) (k := a + m + 1) (by omega), ← ih, sgK_ge (by omega)]
      omega
  obtain ⟨m, hm⟩ := Int.eq_ofNat_of_zero_le (show 0 ≤ n - 1 - a by omega)
  have := key m
  rw [show a + (m : Int) = n - 1 by omega, show n - 1 + 1 = n by omega] at this
  exact this
/-! blocks without places are swept -/
theorem sw_lo {u : Int → Int} {j : Int} (h : j < 138) : swS u 40 j = u j := swS_o (fun b _ _ => by omega) (by omega)
theorem sw_mb {u : Int → Int} {d c : Int} (c0 : 0 ≤ c) (c1 : c < 8) : mb (swS u 40) d c = mb u d c := swS_o (fun b _ _ => by omega) (by omega)
theorem sw_mo {u : Int → Int} {k j : Int} (_k0 : 0 ≤ k) (k1 : k < 16) (j1 : j < 8) : mo (swS u 40) k j = mo u k j := sw_lo (by omega)
theorem sw_f0 {u : Int → Int} {d : Int} (d0 : 0 ≤ d) (d1 : d < 40) (h : mf u d = 1 ∧ pwM u d = 0) : mf (swS u 40) d = 0 := if_pos ⟨d, d0, d1, rfl, h⟩
theorem sw_f1 {u : Int → Int} {d : Int} (h : ¬ (mf u d = 1 ∧ pwM u d = 0)) : mf (swS u 40) d = mf u d := if_neg (fun ⟨b, b0, b1, e, g⟩ => h (by rw [show d = b by omega]; exact g))
theorem sw_iff {u : Int → Int} {d : Int} (d0 : 0 ≤ d) (d1 : d < 40) : mf (swS u 40) d = 1 ↔ mf u d = 1 ∧ 0 < pwM u d := by
  have n := pwM_nn (s := u) (b := d)
  by_cases h : mf u d = 1 ∧ pwM u d = 0
  · rw [sw_f0 d0 d1 h]; omega
  · rw [sw_f1 h]
    constructor
    · intro z
      exact ⟨z, by have : ¬ pwM u d = 0 := fun y => h ⟨z, y⟩
                   omega⟩
    · exact fun z => z.1
theorem sw_pw {u : Int → Int} (h1 : u 0 ≤ 16) (b : Int) : pwM (swS u 40) b = pwM u b := by
  unfold pwM
  rw [sw_lo (j := 0) (by omega)]
  exact sm_congr (fun k a b => sm_congr (fun p c d => by rw [sw_mo a (by omega) (by omega)]))
theorem sw_mS {u : Int → Int} (h1 : u 0 ≤ 16) (x : Int) : mS (swS u 40) x = mS u x := by
  unfold mS
  rw [sw_lo (j := 0) (by omega)]
  exact fnd_congr (fun k a b => by rw [sw_mo a (by omega) (by omega)])
/-- all that holds but that every block is used -/
def MVp (s : Int → Int) : Prop := MI s ∧ (∀ k p, 0 ≤ k → k < 16 → 0 ≤ p → p < 6 → 0 ≤ mo s k (2 + p) ∧ mo s k (2 + p) < 40) ∧
  (∀ d, 0 ≤ d → d < 40 → mf s d = 0 ∨ mf s d = 1) ∧ (∀ k p, 0 ≤ k → k < s 0 → 0 ≤ p → p < 6 → mf s (mo s k (2 + p)) = 1) ∧
  (∀ b, 0 ≤ b → b < 4 → mh s b = -1 ∨ (0 ≤ mh s b ∧ 0 ≤ mS s (mh s b))) ∧ (∀ k, 0 ≤ k → k < s 0 → mo s k 0 < s 1) ∧ (s 5 = 0 ∨ s 5 = 1)
theorem MV_sw {u : Int → Int} (h : MVp u) : MV (swS u 40) := by
  obtain ⟨hi, hl, hf, hu, hh, hn, h5⟩ := h
  have hz := hi.2.2.2.2
  have e0 : swS u 40 0 = u 0 := sw_lo (by omega)
  refine ⟨⟨?_, ?_, fun i j i0 ij jn => ?_, fun k k0 kn => ?_, by omega, by omega⟩, fun k p k0 k1 p0 p1 => ?_, fun d d0 d1 => ?_, fun k p k0 k1 p0 p1 => ?_, fun d d0 d1 => ?_, fun k k0 k1 => ?_, by rw [sw_lo (by omega)]; exact h5, fun d d0 d1 g => ?_⟩
  · rw [sw_mo (by omega) (by omega) (by omega)]; exact hi.1
  · rw [sw_mo (by omega) (by omega) (by omega)]; exact hi.2.1
  · rw [sw_mo i0 (by omega) (by omega), sw_mo (by omega) (by omega) (by omega)]; exact hi.2.2.1 i j i0 ij (by omega)
  · rw [sw_mo (by omega) (by omega) (by omega), sw_mo (by omega) (by omega) (by omega), sw_mS hz.2]; exact hi.2.2.2.1 k k0 (by omega)
  · rw [sw_mo k0 k1 (by omega)]; exact hl k p k0 k1 p0 p1
  · by_cases z : mf u d = 1 ∧ pwM u d = 0
    · exact Or.inl (sw_f0 d0 d1 z)
    · rw [sw_f1 z]; exact hf d d0 d1
  · rw [sw_mo k0 (by omega) (by omega)]
    have z := hl k p k0 (by omega) p0 p1
    exact (sw_iff z.1 z.2).mpr ⟨hu k p k0 (by omega) p0 p1, pwM_pos.mpr ⟨k, p, k0, by omega, p0, p1, rfl⟩⟩
  · rw [show mh (swS u 40) d = mh u d from sw_lo (by omega), sw_mS hz.2]; exact hh d d0 d1
  · rw [sw_mo k0 (by omega) (by omega), sw_lo (j := 1) (by omega)]; exact hn k k0 (by omega)
  · rw [sw_pw hz.2]; exact ((sw_iff d0 d1).mp g).2
/-! a state taken out -/
theorem fgP_mo {s : Int → Int} {x par n k j : Int} (k0 : 0 ≤ k) (k1 : k < n) (j0 : 0 ≤ j) (j1 : j < 8) : fgP s x par n (10 + 8 * k + j) = if j = 1 ∧ mo s k 1 = x then par else mo s k j := by
  unfold fgP mo
  by_cases h : j = 1 ∧ s (10 + 8 * k + 1) = x
  · obtain ⟨rfl, h2⟩ := h
    rw [if_pos ⟨by omega, by omega, by omega, h2⟩, if_pos ⟨rfl, h2⟩]
  · rw [if_neg h, if_neg (fun z => h ⟨by omega, by rw [show (1 : Int) = j by omega]; exact z.2.2.2⟩)]
theorem fg_mo {s : Int → Int} {x par a n k j : Int} (a0 : 0 ≤ a) (k0 : 0 ≤ k) (k1 : k < n - 1) (j0 : 0 ≤ j) (j1 : j < 8) : mo (fgM s x par a n) k j = if j = 1 ∧ mo s (sgK a k) 1 = x then par else mo s (sgK a k) j := by
  have e : mo (fgM s x par a n) k j = fgP s x par n (10 + 8 * sgK a k + j) := by
    unfold fgM
    show cpI _ _ _ _ _ (10 + 8 * k + j) = _
    unfold cpI
    rcases Int.lt_or_le k a with q | q
    · rw [if_neg (by omega), updI_n (by omega), sgK_lt q]
    · rw [if_pos (by omega), updI_n (by omega), sgK_ge q]; congr 1; omega
  have hb := sgK_bd (n := n) k0 k1 a0
  rw [e, fgP_mo hb.1 hb.2.1 j0 j1]
theorem fg_lo {s : Int → Int} {x par a n j : Int} (a0 : 0 ≤ a) (h0 : j ≠ 0) (h1 : j < 10) : fgM s x par a n j = s j := by
  unfold fgM cpI
  rw [if_neg (by omega), updI_n h0, fgP_n (by omega)]
theorem fg_hi {s : Int → Int} {x par a n j : Int} (hn : n ≤ 16) (h1 : 138 ≤ j) : fgM s x par a n j = s j := by
  unfold fgM cpI
  rw [if_neg (by omega), updI_n (by omega)]
  exact if_neg (by omega)
theorem fg_pw {s : Int → Int} {x par a : Int} (a0 : 0 ≤ a) (a1 : a < s 0) (d : Int) : pwM (fgM s x par a (s 0)) d + sm 6 (fun p => b2i (mo s a (2 + p) = d)) = pwM s d := by
  unfold pwM
  rw [fgM_0 a0, ← sm_del (n := s 0) (g := fun k => sm 6 (fun p => b2i (mo s k (2 + p) = d))) a0 a1]
  congr 1
  refine sm_congr (fun k k0 k1 => sm_congr (fun p p0 p1 => ?_))
  rw [fg_mo a0 k0 k1 (by omega) (by omega), if_neg (by omega)]
/-- the numbers of a state that can go -/
def FG (s : Int → Int) (x : Int) : Prop := MV s ∧ 0 ≤ mS s x ∧ 0 < x ∧ ∀ d, 0 ≤ d → d < 4 → ¬ mh s d = x
theorem FG.a {s : Int → Int} {x : Int} (h : FG s x) : 0 < mS s x ∧ mS s x < s 0 ∧ mo s (mS s x) 0 = x := ⟨(h.1.i.nn h.2.1).2.2.mp h.2.2.1, mS_in h.2.1⟩
/-- the reference's numbers when a state is taken out, unswept -/
noncomputable def fgX (s : Int → Int) (x : Int) : Int → Int := fgM s x (mo s (mS s x) 1) (mS s x) (s 0)
theorem fgX_mo {s : Int → Int} {x k j : Int} (h : FG s x) (k0 : 0 ≤ k) (k1 : k < s 0 - 1) (j0 : 0 ≤ j) (j1 : j < 8) : mo (fgX s x) k j = if j = 1 ∧ mo s (sgK (mS s x) k) 1 = x then mo s (mS s x) 1 else mo s (sgK (mS s x) k) j := fg_mo h.2.1 k0 k1 j0 j1
theorem fgX_num {s : Int → Int} {x k : Int} (h : FG s x) (k0 : 0 ≤ k) (k1 : k < s 0 - 1) : mo (fgX s x) k 0 = mo s (sgK (mS s x) k) 0 := by
  rw [fgX_mo h k0 k1 (by omega) (by omega), if_neg (by omega)]
theorem fgX_pl {s : Int → Int} {x k p : Int} (h : FG s x) (k0 : 0 ≤ k) (k1 : k < s 0 - 1) (p0 : 0 ≤ p) (p1 : p < 6) : mo (fgX s x) k (2 + p) = mo s (sgK (mS s x) k) (2 + p) := by
  rw [fgX_mo h k0 k1 (by omega) (by omega), if_neg (by omega)]
theorem fgX_mS {s : Int → Int} {x y : Int} (h : FG s x) (hy : 0 ≤ mS s y) (hn : y ≠ x) : 0 ≤ mS (fgX s x) y := by
  have ha := h.a
  have hyy := mS_in hy
  have hne : mS s y ≠ mS s x := fun z => by rw [z, ha.2.2] at hyy; exact hn hyy.2.symm
  obtain ⟨k, k0, k1, hk⟩ := sgK_on hy hyy.1 hne h.2.1 ha.2.1
  refine mS_ex (k := k) k0 (by rw [show fgX s x 0 = s 0 - 1 from fgM_0 h.2.1]; exact k1) ?_
  rw [fgX_num h k0 k1, hk]; exact hyy.2
theorem fgX_MVp {s : Int → Int} {x : Int} (h : FG s x) : MVp (fgX s x) := by
  have ha := h.a
  have hM := h.1
  have hz := hM.z
  have e0 : fgX s x 0 = s 0 - 1 := fgM_0 h.2.1
  have hlo : ∀ j, j ≠ 0 → j < 10 → fgX s x j = s j := fun j a b => fg_lo h.2.1 a b
  have hhi : ∀ j, 138 ≤ j → fgX s x j = s j := fun j a => fg_hi hz.2 a
  have hf : ∀ d, 0 ≤ d → mf (fgX s x) d = mf s d := fun d d0 => hhi _ (by omega)
  have hk0 : sgK (mS s x) 0 = 0 := sgK_lt ha.1
  have hdn := hM.i.down ha.1 ha.2.1
  refine ⟨⟨?_, ?_, fun i j i0 ij jn => ?_, fun k k0 kn => ?_, by omega, by omega⟩, fun k p k0 k1 p0 p1 => ?_, fun d d0 d1 => ?_, fun k p k0 k1 p0 p1 => ?_, fun d d0 d1 => ?_, fun k k0 k1 => ?_, by rw [hlo 5 (by omega) (by omega)]; exact hM.g⟩
  · rw [fgX_num h (by omega) (by omega), hk0]; exact hM.i.1
  · rw [fgX_mo h (by omega) (by omega) (by omega) (by omega), hk0, hM.i.2.1, if_neg (by have := h.2.2.1; omega)]
  · rw [e0] at jn
    rw [fgX_num h i0 (by omega), fgX_num h (by omega) (by omega)]
    have b1 := sgK_bd (n := s 0) (k := i) i0 (by omega) h.2.1
    have b2 := sgK_bd (n := s 0) (k := j) (by omega) (by omega) h.2.1
    exact hM.i.2.2.1 _ _ b1.1 (by omega) b2.2.1
  · rw [e0] at kn
    have b := sgK_bd (n := s 0) (k := k) (by omega) kn h.2.1
    rw [fgX_num h (by omega) kn, fgX_mo h (by omega) kn (by omega) (by omega)]
    have z := hM.i.2.2.2.1 (sgK (mS s x) k) (by omega) b.2.1
    by_cases hp : mo s (sgK (mS s x) k) 1 = x
    · rw [if_pos ⟨rfl, hp⟩]
      have hx : mo s (mS s x) 1 < x := by
        have := hM.i.2.2.2.1 (mS s x) ha.1 ha.2.1
        rw [ha.2.2] at this; exact this.2
      exact ⟨fgX_mS h hdn.1 (by omega), by omega⟩
    · rw [if_neg (fun y => hp y.2)]
      exact ⟨fgX_mS h z.1 hp, z.2⟩
  · exact fgM_L hM.l h.2.1 hz.2 k p k0 k1 p0 p1
  · rw [hf d d0]; exact hM.f d d0 d1
  · rw [e0] at k1
    rw [fgX_pl h k0 k1 p0 p1]
    have b := sgK_bd (n := s 0) (k := k) k0 k1 h.2.1
    have z := hM.l (sgK (mS s x) k) p b.1 (by omega) p0 p1
    rw [hf _ z.1]; exact hM.u _ p b.1 b.2.1 p0 p1
  · rw [show mh (fgX s x) d = mh s d from hlo _ (by omega) (by omega)]
    rcases hM.h d d0 d1 with z | z
    · exact Or.inl z
    · exact Or.inr ⟨z.1, fgX_mS h z.2 (h.2.2.2 d d0 d1)⟩
  · rw [e0] at k1
    rw [fgX_num h k0 k1, hlo 1 (by omega) (by omega)]
    have b := sgK_bd (n := s 0) (k := k) k0 k1 h.2.1
    exact hM.n _ b.1 b.2.1
def qFo (s : Int → Int) (x r : Int) (s' : Int → Int) : Prop :=
  (¬ 0 ≤ fO (mS s x) ∧ r = -1000001 ∧ s' = s) ∨ (0 ≤ fO (mS s x) ∧ ¬ (0 < x ∧ ∀ d, 0 ≤ d → d < 4 → ¬ mh s d = x) ∧ r = -1000002 ∧ s' = s) ∨
  (0 ≤ fO (mS s x) ∧ (0 < x ∧ ∀ d, 0 ≤ d → d < 4 → ¬ mh s d = x) ∧ r = sm 40 (fun b => b2i (mf (fgX s x) b = 1 ∧ pwM (fgX s x) b = 0)) ∧ s' = swS (fgX s x) 40)
theorem qFo_det {s s1 s2 : Int → Int} {x r1 r2 : Int} (h1 : qFo s x r1 s1) (h2 : qFo s x r2 s2) : r1 = r2 ∧ s1 = s2 := by
  rcases h1 with ⟨a, rfl, rfl⟩ | ⟨a, a2, rfl, rfl⟩ | ⟨a, a2, rfl, rfl⟩ <;> rcases h2 with ⟨b, rfl, rfl⟩ | ⟨b, b2, rfl, rfl⟩ | ⟨b, b2, rfl, rfl⟩
  all_goals first
    | exact ⟨rfl, rfl⟩
    | exact absurd a b
    | exact absurd b a
    | exact absurd a2 b2
    | exact absurd b2 a2
theorem qFo_MV {s s' : Int → Int} {x r : Int} (hM : MV s) (h : qFo s x r s') : MV s' ∧ s' 1 ≤ s 1 + 1 := by
  rcases h with ⟨a, rfl, rfl⟩ | ⟨a, a2, rfl, rfl⟩ | ⟨a, a2, rfl, rfl⟩
  · exact ⟨hM, by omega⟩
  · exact ⟨hM, by omega⟩
  · have hG : FG s x := ⟨hM, fO_nn.mp a, a2⟩
    refine ⟨MV_sw (fgX_MVp hG), ?_⟩
    rw [sw_lo (by omega), show fgX s x 1 = s 1 from fg_lo hG.2.1 (by omega) (by omega)]; omega
/-! blocks shared -/
theorem ll_at {s : Int → Int} (h : MV s) {b : Int} (b0 : 0 ≤ b) (b1 : b < 40) (hb : mf s b = 1) : 0 ≤ llM s b ∧ llM s b ≤ b ∧ mf s (llM s b) = 1 ∧ (∀ c, 0 ≤ c → c < 8 → mb s (llM s b) c = mb s b c) ∧ ∀ o, 0 ≤ o → o < llM s b → ¬ (mf s o = 1 ∧ ∀ c, 0 ≤ c → c < 8 → mb s o c = mb s b c) := by
  have hc := llM_c s b b0 b1 hb
  rcases fnd_c 40 (fun o => mf s o = 1 ∧ ∀ c, 0 ≤ c → c < 8 → mb s o c = mb s b c) with ⟨e, _⟩ | ⟨z0, _, z2, z3⟩
  · have : llM s b = -1 := e
    omega
  · exact ⟨hc.1, hc.2, z2.1, z2.2, z3⟩
theorem ll_ll {s : Int → Int} (h : MV s) {b : Int} (b0 : 0 ≤ b) (b1 : b < 40) (hb : mf s b = 1) : llM s (llM s b) = llM s b := by
  have z := ll_at h b0 b1 hb
  unfold llM
  exact fnd_congr (fun o o0 o1 => ⟨fun y => ⟨y.1, fun c c0 c1 => (y.2 c c0 c1).trans (z.2.2.2.1 c c0 c1)⟩, fun y => ⟨y.1, fun c c0 c1 => (y.2 c c0 c1).trans (z.2.2.2.1 c c0 c1).symm⟩⟩)
noncomputable def shX (s : Int → Int) : Int → Int := shS s (s 0) 0
theorem shX_o {s : Int → Int} (h : MV s) {j : Int} (hj : j < 12 ∨ 138 ≤ j) : shX s j = s j := shS_o (Or.inr ⟨h.z.2, rfl⟩) hj
theorem shX_01 {s : Int → Int} (_h : MV s) {k j : Int} (k0 : 0 ≤ k) (j0 : 0 ≤ j) (j1 : j < 2) : mo (shX s) k j = mo s k j := if_neg (by omega)
theorem shX_pl {s : Int → Int} {k p : Int} (k0 : 0 ≤ k) (k1 : k < s 0) (p0 : 0 ≤ p) (p1 : p < 6) : mo (shX s) k (2 + p) = llM s (mo s k (2 + p)) := if_pos (by omega)
theorem shX_MVp {s : Int → Int} (h : MV s) : MVp (shX s) := by
  have hz := h.z
  have e0 : shX s 0 = s 0 := shX_o h (by omega)
  have hf : ∀ d, 0 ≤ d → mf (shX s) d = mf s d := fun d d0 => shX_o h (by omega)
  have eS : ∀ x, mS (shX s) x = mS s x := fun x => by
    unfold mS
    rw [e0]
    exact fnd_congr (fun j a b => by rw [shX_01 h a (by omega) (by omega)])
  refine ⟨⟨?_, ?_, fun i j i0 ij jn => ?_, fun k k0 kn => ?_, by omega, by omega⟩, shS_L h.l h.u, fun d d0 d1 => ?_, fun k p k0 k1 p0 p1 => ?_, fun d d0 d1 => ?_, fun k k0 k1 => ?_, by rw [shX_o h (by omega)]; exact h.g⟩
  · rw [shX_01 h (by omega) (by omega) (by omega)]; exact h.i.1
  · rw [shX_01 h (by omega) (by omega) (by omega)]; exact h.i.2.1
  · rw [shX_01 h i0 (by omega) (by omega), shX_01 h (by omega) (by omega) (by omega)]; exact h.i.2.2.1 i j i0 ij (by omega)
  · rw [shX_01 h (by omega) (by omega) (by omega), shX_01 h (by omega) (by omega) (by omega), eS]; exact h.i.2.2.2.1 k k0 (by omega)
  · rw [hf d d0]; exact h.f d d0 d1
  · rw [shX_pl k0 (by omega) p0 p1]
    have z := h.l k p k0 (by omega) p0 p1
    have y := ll_at h z.1 z.2 (h.u k p k0 (by omega) p0 p1)
    rw [hf _ y.1]; exact y.2.2.1
  · rw [show mh (shX s) d = mh s d from shX_o h (by omega), eS]; exact h.h d d0 d1
  · rw [shX_01 h k0 (by omega) (by omega), shX_o h (by omega)]; exact h.n k k0 (by omega)
def qSh (s : Int → Int) (r : Int) (s' : Int → Int) : Prop := r = sm 40 (fun b => b2i (mf (shX s) b = 1 ∧ pwM (shX s) b = 0)) ∧ s' = swS (shX s) 40
theorem qSh_det {s s1 s2 : Int → Int} {r1 r2 : Int} (h1 : qSh s r1 s1) (h2 : qSh s r2 s2) : r1 = r2 ∧ s1 = s2 := ⟨h1.1.trans h2.1.symm, h1.2.trans h2.2.symm⟩
theorem qSh_MV {s s' : Int → Int} {r : Int} (hM : MV s) (h : qSh s r s') : MV s' ∧ s' 1 ≤ s 1 + 1 := by
  obtain ⟨-, rfl⟩ := h
  refine ⟨MV_sw (shX_MVp hM), ?_⟩
  rw [sw_lo (by omega), shX_o hM (by omega)]; omega
