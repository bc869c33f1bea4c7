/-! ===== every answer about what there is, is the same ===== -/
theorem sm_z_iff {n : Int} {f : Int → Int} (h : ∀ j : Int, 0 ≤ j → j < n → 0 ≤ f j) : sm n f = 0 ↔ ∀ j : Int, 0 ≤ j → j < n → f j = 0 := by
  have hp := sm_pos h
  have hn := sm_nn h
  constructor
  · intro z j a b
    have := h j a b
    rcases Int.lt_or_le 0 (f j) with q | q
    · have := hp.mpr ⟨j, a, b, q⟩
      omega
    · omega
  · exact fun z => sm_z z
theorem fnd_m1 {n : Int} {p : Int → Prop} : fnd n p = -1 ↔ ∀ j, 0 ≤ j → j < n → ¬ p j := by
  rcases fnd_c n p with ⟨e, h⟩ | ⟨h0, h1, h2, h3⟩
  · exact ⟨fun _ => h, fun _ => e⟩
  · exact ⟨fun z => by omega, fun z => absurd h2 (z _ h0 h1)⟩
theorem sm_flat8N {f : Int → Int} : ∀ m : Nat, sm ((m : Int) * 8) f = sm (m : Int) (fun k => sm 8 (fun p => f (k * 8 + p)))
  | 0 => by rw [sm_0 (by omega), sm_0 (by omega)]
  | m + 1 => by
    rw [show ((m + 1 : Nat) : Int) * 8 = (m : Int) * 8 + ((8 : Nat) : Int) by omega, sm_app (by omega), sm_flat8N m, show ((m + 1 : Nat) : Int) = (m : Int) + 1 from rfl, sm_s (by omega)]
    rfl
/-- the first places of different blocks are as many as the blocks -/
theorem dist_N {g : Int → Int} {Q : Int → Prop} : ∀ m : Nat, (∀ q, 0 ≤ q → q < (m : Int) → 0 ≤ g q ∧ g q < 40) → sm (m : Int) (fun q => b2i (Q (g q) ∧ ∀ e, 0 ≤ e → e < q → ¬ g e = g q)) = sm 40 (fun b => b2i (Q b ∧ ∃ q, 0 ≤ q ∧ q < (m : Int) ∧ g q = b))
  | 0, _ => by
    rw [sm_0 (by omega), sm_z (fun b b0 b1 => b2i_f (fun ⟨_, q, q0, q1, _⟩ => by omega))]
  | m + 1, h => by
    have hm := h m (by omega) (by omega)
    have e1 : ((m + 1 : Nat) : Int) = (m : Int) + 1 := rfl
    rw [e1, sm_s (by omega), dist_N m (fun q q0 q1 => h q q0 (by omega)), sm_upd (i := g m) (f := fun b => b2i (Q b ∧ ∃ q, 0 ≤ q ∧ q < (m : Int) ∧ g q = b)) (g := fun b => b2i (Q b ∧ ∃ q, 0 ≤ q ∧ q < (m : Int) + 1 ∧ g q = b)) (fun b b0 b1 bn => b2i_iff ⟨?_, ?_⟩) hm.1 hm.2]
    · by_cases hQ : Q (g m)
      · rw [b2i_t (p := Q (g m) ∧ ∃ q, 0 ≤ q ∧ q < (m : Int) + 1 ∧ g q = g m) ⟨hQ, m, by omega, by omega, rfl⟩]
        by_cases hF : ∀ e, 0 ≤ e → e < (m : Int) → ¬ g e = g m
        · rw [b2i_t ⟨hQ, hF⟩, b2i_f (p := Q (g m) ∧ ∃ q, 0 ≤ q ∧ q < (m : Int) ∧ g q = g m) (fun ⟨_, q, q0, q1, e⟩ => hF q q0 q1 e)]; omega
        · have hx : ∃ q, 0 ≤ q ∧ q < (m : Int) ∧ g q = g m := Classical.byContradiction fun z => hF (fun e e0 e1 y => z ⟨e, e0, e1, y⟩)
          rw [b2i_f (fun z => hF z.2), b2i_t (p := Q (g m) ∧ ∃ q, 0 ≤ q ∧ q < (m : Int) ∧ g q = g m) ⟨hQ, hx⟩]; omega
      · rw [b2i_f (fun z => hQ z.1), b2i_f (p := Q (g m) ∧ ∃ q, 0 ≤ q ∧ q < (m : Int) + 1 ∧ g q = g m) (fun z => hQ z.1), b2i_f (p := Q (g m) ∧ ∃ q, 0 ≤ q ∧ q < (m : Int) ∧ g q = g m) (fun z => hQ z.1)]; omega
    · rintro ⟨a, q, q0, q1, e⟩
      refine ⟨a, q, q0, ?_, e⟩
      rcases Int.lt_or_le q m with z | z
      · exact z
      · have : q = (m : Int) := by omega
        rw [this] at e
        exact absurd e.symm bn
    · rintro ⟨a, q, q0, q1, e⟩; exact ⟨a, q, q0, by omega, e⟩
section RDs
variable {V : Vt} {w : Nat} {s : Int → Int}
theorem RW.sums (hR : RW V w s) {k : Int} (k0 : 0 ≤ k) (k1 : k < s 0) : sm 6 (fun p => sm 8 (fun i => V 2 w (V 7 w (k * 6 + p) * 8 + i))) = sm 48 (fun c => mc s k c) := by
  have hz := hR.m.z
  have e := sm_flat8N (f := fun c => mc s k c) 6
  rw [show (((6 : Nat) : Int)) * 8 = 48 from rfl, show (((6 : Nat) : Int)) = 6 from rfl] at e
  rw [e]
  refine sm_congr (fun p p0 p1 => sm_congr (fun i i0 i1 => ?_))
  have hl := hR.m.l k p k0 (by omega) p0 p1
  rw [hR.pl k p k0 k1 p0 p1, hR.bc _ i hl.1 hl.2 i0 i1]
  unfold mc
  rw [show (p * 8 + i) / 8 = p by omega, show (p * 8 + i) % 8 = i by omega]
theorem RW.pos (hR : RW V w s) {a : Int} (a0 : 0 ≤ a) (a1 : a < s 0) : (0 < a ↔ 0 < mo s a 0) ∧ 0 ≤ mo s a 0 := by
  have e := hR.m.i.slot a0 a1
  have := hR.m.i.nn (x := mo s a 0) (by omega)
  rw [e] at this
  exact ⟨this.2.2.symm, this.1⟩
theorem RW.stp (hR : RW V w s) : ∀ (n : Nat) (a : Int), 0 ≤ a → a < s 0 → itS (pS (V 4 w 3) (V 5 w) (V 6 w)) n a = itS (gM s) n (mo s a 0)
  | 0, _, _, _ => rfl
  | n + 1, a, a0, a1 => by
    have hp := hR.pos a0 a1
    rcases Int.lt_or_le 0 a with q | q
    · have hd := hR.m.i.down q a1
      rw [itS_s q, itS_s (hp.1.mp q), hR.psl a0 a1, RW.stp hR n _ hd.1 (by omega), hd.2.2.1, gM_at hR.m.i a0 a1]
    · rw [itS_0 q, itS_0 (by omega)]
theorem RW.chl (hR : RW V w s) {a : Int} (a0 : 0 ≤ a) (a1 : a < s 0) : sm (V 4 w 3) (fun j => b2i (a < j ∧ V 6 w j = V 5 w a)) = sm (s 0) (fun k => b2i (mo s k 1 = mo s a 0)) := by
  rw [hR.n0]
  refine sm_congr (fun j j0 j1 => b2i_iff ?_)
  rw [(hR.st j j0 j1).2, (hR.st a a0 a1).1]
  refine ⟨fun z => z.2, fun z => ⟨?_, z⟩⟩
  have hp := hR.pos a0 a1
  rcases Int.lt_or_le a j with q | q
  · exact q
  · exfalso
    rcases Int.lt_or_le 0 j with q2 | q2
    · have h1 := (hR.m.i.2.2.2.1 j q2 j1).2
      rcases Int.lt_or_le j a with q3 | q3
      · have := hR.m.i.2.2.1 j a j0 q3 a1
        omega
      · have e : j = a := by omega
        rw [e] at h1 z; omega
    · have e : j = 0 := by omega
      rw [e, hR.m.i.2.1] at z; omega
/-- one state alone has a block -/
theorem own_iff {c : Int → Int} {n a : Int} (a0 : 0 ≤ a) (a1 : a < n) (hc : ∀ k, 0 ≤ k → k < n → 0 ≤ c k) (hp : 0 < c a) : sm n c = c a ↔ sm n (fun k => b2i (0 < c k)) = 1 := by
  have h1 := sm_upd (n := n) (i := a) (f := fun k => if k = a then 0 else c k) (g := c) (fun j _ _ jn => by rw [if_neg jn]) a0 a1
  have h2 := sm_upd (n := n) (i := a) (f := fun k => if k = a then 0 else b2i (0 < c k)) (g := fun k => b2i (0 < c k)) (fun j _ _ jn => by rw [if_neg jn]) a0 a1
  rw [if_pos rfl] at h1 h2
  rw [b2i_t hp] at h2
  have z1 := sm_z_iff (n := n) (f := fun k => if k = a then 0 else c k) (fun j j0 j1 => by
    by_cases e : j = a
    · rw [if_pos e]; exact Int.le_refl _
    · rw [if_neg e]; exact hc j j0 j1)
  have z2 := sm_z_iff (n := n) (f := fun k => if k = a then 0 else b2i (0 < c k)) (fun j j0 j1 => by
    by_cases e : j = a
    · rw [if_pos e]; exact Int.le_refl _
    · rw [if_neg e]; exact (b2i_b _).1)
  have key : (∀ j, 0 ≤ j → j < n → (if j = a then 0 else c j) = 0) ↔ (∀ j, 0 ≤ j → j < n → (if j = a then 0 else b2i (0 < c j)) = 0) := by
    constructor
    · intro h j j0 j1
      have := h j j0 j1
      by_cases e : j = a
      · rw [if_pos e]
      · rw [if_neg e] at this ⊢
        exact b2i_f (by omega)
    · intro h j j0 j1
      have := h j j0 j1
      by_cases e : j = a
      · rw [if_pos e]
      · rw [if_neg e] at this ⊢
        have y := b2i_eq0.mp this
        have := hc j j0 j1
        omega
  constructor
  · intro h
    have := z2.mpr (key.mp (z1.mp (by omega)))
    omega
  · intro h
    have := z1.mpr (key.mpr (z2.mp (by omega)))
    omega
theorem RW.own (hR : RW V w s) {a q : Int} (a0 : 0 ≤ a) (a1 : a < s 0) (q0 : 0 ≤ q) (q1 : q < 6) : (V 3 w (V 7 w (a * 6 + q)) = sm 6 (fun p => b2i (V 7 w (a * 6 + p) = V 7 w (a * 6 + q)))) ↔ sm (s 0) (fun j => b2i (∃ p, 0 ≤ p ∧ p < 6 ∧ mo s j (2 + p) = mo s a (2 + q))) = 1 := by
  have hz := hR.m.z
  have hl := hR.m.l a q a0 (by omega) q0 q1
  rw [hR.pl a q a0 a1 q0 q1, hR.pl6 a0 a1, hR.us _ hl.1 hl.2]
  unfold pwM
  rw [own_iff (c := fun k => sm 6 (fun p => b2i (mo s k (2 + p) = mo s a (2 + q)))) a0 a1 (fun k _ _ => sm_nn (fun j _ _ => (b2i_b _).1)) (sm_b2i_pos.mpr ⟨q, q0, q1, rfl⟩)]
  rw [sm_congr (fun j _ _ => b2i_iff (sm_b2i_pos (n := 6) (p := fun p => mo s j (2 + p) = mo s a (2 + q))))]
theorem RW.blk (hR : RW V w s) {a : Int} (a0 : 0 ≤ a) (a1 : a < s 0) : sm 6 (fun p => b2i (∀ e, 0 ≤ e → e < p → ¬ V 7 w (a * 6 + e) = V 7 w (a * 6 + p))) = sm 40 (fun b => b2i (∃ p, 0 ≤ p ∧ p < 6 ∧ mo s a (2 + p) = b)) := by
  have h := dist_N (g := fun p => V 7 w (a * 6 + p)) (Q := fun _ => True) 6 (fun q _ _ => hR.L _)
  rw [show (((6 : Nat) : Int)) = 6 from rfl] at h
  have e1 : sm 6 (fun p => b2i (∀ e, 0 ≤ e → e < p → ¬ V 7 w (a * 6 + e) = V 7 w (a * 6 + p))) = sm 6 (fun q => b2i (True ∧ ∀ e, 0 ≤ e → e < q → ¬ V 7 w (a * 6 + e) = V 7 w (a * 6 + q))) := sm_congr (fun q _ _ => b2i_iff ⟨fun z => ⟨trivial, z⟩, fun z => z.2⟩)
  rw [e1, h]
  refine sm_congr (fun b b0 b1 => b2i_iff ⟨?_, ?_⟩)
  · rintro ⟨-, q, q0, q1, e⟩; exact ⟨q, q0, q1, by rw [← hR.pl a q a0 a1 q0 q1]; exact e⟩
  · rintro ⟨q, q0, q1, e⟩; exact ⟨trivial, q, q0, q1, by rw [hR.pl a q a0 a1 q0 q1]; exact e⟩
/-- what forgetting a state frees -/
theorem RW.fre (hR : RW V w s) {a : Int} (a0 : 0 ≤ a) (a1 : a < s 0) : sm 6 (fun q => b2i (V 3 w (V 7 w (a * 6 + q)) = sm 6 (fun p => b2i (V 7 w (a * 6 + p) = V 7 w (a * 6 + q))) ∧ ∀ e, 0 ≤ e → e < q → ¬ V 7 w (a * 6 + e) = V 7 w (a * 6 + q))) =
    sm 40 (fun b => b2i (mf (fgX s (mo s a 0)) b = 1 ∧ pwM (fgX s (mo s a 0)) b = 0)) := by
  have hz := hR.m.z
  have hs := hR.m.i.slot a0 a1
  have h := dist_N (g := fun p => V 7 w (a * 6 + p)) (Q := fun d => V 3 w d = sm 6 (fun p => b2i (V 7 w (a * 6 + p) = d))) 6 (fun q _ _ => hR.L _)
  rw [show (((6 : Nat) : Int)) = 6 from rfl] at h
  rw [h]
  refine sm_congr (fun b b0 b1 => b2i_iff ?_)
  have hf : mf (fgX s (mo s a 0)) b = mf s b := fg_hi hz.2 (by omega)
  have hpw : pwM (fgX s (mo s a 0)) b + sm 6 (fun p => b2i (mo s a (2 + p) = b)) = pwM s b := by
    unfold fgX
    rw [hs]; exact fg_pw a0 a1 b
  have hc := sm_b2i_pos (n := 6) (p := fun p => mo s a (2 + p) = b)
  have hu := hR.m.p b0 b1
  have hn := pwM_nn (s := fgX s (mo s a 0)) (b := b)
  rw [hf, hR.pl6 a0 a1, hR.us b b0 b1]
  constructor
  · rintro ⟨e, q, q0, q1, g⟩
    refine ⟨?_, by omega⟩
    rw [← g, hR.pl a q a0 a1 q0 q1]; exact hR.m.u a q a0 a1 q0 q1
  · rintro ⟨e, g⟩
    refine ⟨by omega, ?_⟩
    obtain ⟨q, q0, q1, y⟩ := hc.mp (by have := hu.mp e; omega)
    exact ⟨q, q0, q1, by rw [hR.pl a q a0 a1 q0 q1]; exact y⟩
theorem RW.frv (hR : RW V w s) {k : Int} (k0 : 0 ≤ k) (k1 : k < s 0) : fgF V w k = frV s k := by
  have hs := hR.m.i.slot k0 k1
  have hc := hR.can (x := mo s k 0) (by omega)
  rw [hs] at hc
  by_cases h : 0 < k ∧ bits 4 (fun b => V 8 w b = V 5 w k) = 0
  · rw [fgF_t h, hR.fre k0 k1]
    exact (if_pos (hc.mp h)).symm
  · rw [fgF_f h]
    exact (if_neg (fun z => h (hc.mpr z))).symm
theorem RW.hev (hR : RW V w s) : ∀ n : Nat, (n : Int) ≤ s 0 → (hvR (fgF V w) (V 5 w) n).2 = hvM (frV s) n ∧ ((hvM (frV s) n = -1 ∧ (hvR (fgF V w) (V 5 w) n).1 = -1 ∧ hvS (frV s) (fun j => mo s j 0) n = -1000004) ∨ (0 ≤ hvM (frV s) n ∧ (hvR (fgF V w) (V 5 w) n).1 = hvS (frV s) (fun j => mo s j 0) n ∧ 0 ≤ hvS (frV s) (fun j => mo s j 0) n))
  | 0, _ => ⟨rfl, Or.inl ⟨rfl, rfl, rfl⟩⟩
  | n + 1, hn => by
    obtain ⟨h1, h2⟩ := RW.hev hR n (by omega)
    have ef := hR.frv (k := (n : Int)) (by omega) (by omega)
    have hp := hR.pos (a := (n : Int)) (by omega) (by omega)
    have e5 := (hR.st (n : Int) (by omega) (by omega)).1
    have mM : hvM (frV s) (n + 1) = if hvM (frV s) n < frV s (n : Int) then frV s (n : Int) else hvM (frV s) n := rfl
    have mS : hvS (frV s) (fun j => mo s j 0) (n + 1) = if hvM (frV s) n < frV s (n : Int) then mo s (n : Int) 0 else hvS (frV s) (fun j => mo s j 0) n := rfl
    rw [mM, mS]
    by_cases q : hvM (frV s) n < frV s (n : Int)
    · rw [if_pos q, if_pos q, hvR_t (by rw [ef, h1]; exact q), ef]
      refine ⟨rfl, Or.inr ⟨?_, e5, hp.2⟩⟩
      rcases h2 with ⟨z, _⟩ | ⟨z, _⟩ <;> omega
    · rw [if_neg q, if_neg q, hvR_f (by rw [ef, h1]; omega)]
      exact ⟨h1, h2⟩
theorem RW.bfo (hR : RW V w s) {d d' : Int → Prop} (hd : ∀ k, 0 ≤ k → k < s 0 → (d k ↔ d' k)) : ∀ (n : Nat) (a : Int), 0 ≤ a → a < s 0 → a < n → bfF (pS (V 4 w 3) (V 5 w) (V 6 w)) (V 5 w) d n a = if bfG s d' (n + 1) (mo s a 0) < 0 then -1000004 else bfG s d' (n + 1) (mo s a 0)
  | 0, a, a0, a1, an => by omega
  | n + 1, a, a0, a1, an => by
    have hs := hR.m.i.slot a0 a1
    have hp := hR.pos a0 a1
    by_cases h : d a
    · rw [bfF_y a0 h, bfG_y (by rw [hs]; exact (hd a a0 a1).mp h), if_neg (by omega)]
      exact (hR.st a a0 a1).1
    · rw [bfF_s a0 h, bfG_s hp.2 (by rw [hs]; exact fun z => h ((hd a a0 a1).mpr z)), hs, hR.psl a0 a1]
      rcases Int.lt_or_le 0 a with q | q
      · have hdn := hR.m.i.down q a1
        have ih := RW.bfo hR hd n (mS s (mo s a 1)) hdn.1 (by omega) (by omega)
        rw [hdn.2.2.1] at ih
        exact ih
      · have e : a = 0 := by omega
        have hm : mS s (-1) < 0 := by
          rcases Int.lt_or_le (mS s (-1)) 0 with y | y
          · exact y
          · have := (hR.m.i.nn y).1
            omega
        rw [e, hR.m.i.2.1, bfF_n hm, bfG_n (by omega), if_pos (by omega)]
theorem RW.lls (hR : RW V w s) {b : Int} (b0 : 0 ≤ b) (b1 : b < 40) : fnd 40 (fun a => V 3 w a ≠ 0 ∧ eq8 (V 2 w) (V 2 w) (a * 8) (b * 8)) = llM s b := by
  unfold llM
  refine fnd_congr (fun a a0 a1 => ?_)
  have hu := hR.m.p a0 a1
  have hn := pwM_nn (s := s) (b := a)
  rw [hR.us a a0 a1]
  constructor
  · rintro ⟨x, y⟩
    exact ⟨hu.mpr (by omega), fun c c0 c1 => by rw [← hR.bc a c a0 a1 c0 c1, ← hR.bc b c b0 b1 c0 c1]; exact y c c0 c1⟩
  · rintro ⟨x, y⟩
    exact ⟨by have := hu.mp x; omega, fun c c0 c1 => by rw [hR.bc a c a0 a1 c0 c1, hR.bc b c b0 b1 c0 c1]; exact y c c0 c1⟩
theorem RW.bis (hR : RW V w s) (b : Int) : (0 ≤ b ∧ b < 40 ∧ 0 < V 3 w b) ↔ (0 ≤ b ∧ b ≤ 39 ∧ mf s b = 1) := by
  constructor
  · rintro ⟨a, c, d⟩
    rw [hR.us b a c] at d
    exact ⟨a, by omega, (hR.m.p a c).mpr d⟩
  · rintro ⟨a, c, d⟩
    exact ⟨a, by omega, by rw [hR.us b a (by omega)]; exact (hR.m.p a (by omega)).mp d⟩
/-! the answers -/
theorem eq_read (hR : RW V w s) (x c : Int) : (if 0 ≤ (fnd (V 4 w 3) (fun k => V 5 w k = x)) ∧ 0 ≤ c ∧ c < 48 then cA (V 2 w) (V 7 w) (fnd (V 4 w 3) (fun k => V 5 w k = x)) c else -1000001) = (if 0 ≤ mS s x ∧ 0 ≤ c ∧ c ≤ 47 then mc s (mS s x) c else -1000001) := by
  rw [hR.slot x]
  by_cases h : 0 ≤ mS s x ∧ 0 ≤ c ∧ c < 48
  · rw [if_pos h, if_pos (by omega), hR.cell h.1 (mS_in h.1).1 h.2.1 h.2.2]
  · rw [if_neg h, if_neg (by omega)]
theorem eq_blockAt (hR : RW V w s) (x p : Int) : (if 0 ≤ (fnd (V 4 w 3) (fun k => V 5 w k = x)) ∧ 0 ≤ p ∧ p < 6 then V 7 w ((fnd (V 4 w 3) (fun k => V 5 w k = x)) * 6 + p) else -1000001) = (if 0 ≤ mS s x ∧ 0 ≤ p ∧ p ≤ 5 then mo s (mS s x) (2 + p) else -1000001) := by
  rw [hR.slot x]
  by_cases h : 0 ≤ mS s x ∧ 0 ≤ p ∧ p < 6
  · rw [if_pos h, if_pos (by omega), hR.pl _ _ h.1 (mS_in h.1).1 h.2.1 h.2.2]
  · rw [if_neg h, if_neg (by omega)]
theorem eq_number (hR : RW V w s) (i : Int) : (if i < 0 then -1000001 else fO (nO (V 4 w 3) (V 5 w) i)) = (if i < 0 then -1000001 else if s 0 ≤ i then -1000004 else mo s i 0) := by
  by_cases h : i < 0
  · rw [if_pos h, if_pos h]
  · rw [if_neg h, if_neg h, hR.n0]
    by_cases h2 : s 0 ≤ i
    · rw [if_pos h2, nO_f (by omega), fO_f (by omega)]
    · have hp := hR.pos (a := i) (by omega) (by omega)
      rw [if_neg h2, nO_t (by omega) (by omega), (hR.st i (by omega) (by omega)).1, fO_t hp.2]
theorem eq_head (hR : RW V w s) (b : Int) : (if 0 ≤ b ∧ b < 4 ∧ ¬ V 8 w b = -1 then V 8 w b else -1000001) = (if 0 ≤ b ∧ b ≤ 3 ∧ 0 ≤ mh s b then mh s b else -1000001) := by
  have hb := hR.b_iff b
  unfold ISb at hb
  by_cases h : 0 ≤ b ∧ b < 4 ∧ ¬ V 8 w b = -1
  · rw [if_pos h, if_pos (hb.mp h), hR.hd b h.1 h.2.1]
  · rw [if_neg h, if_neg (fun z => h (hb.mpr z))]
theorem eq_like (hR : RW V w s) (x : Int) : (if (fnd (V 4 w 3) (fun k => V 5 w k = x)) < 0 then -1000001 else if fnd (V 4 w 3) (fun o => ¬ o = (fnd (V 4 w 3) (fun k => V 5 w k = x)) ∧ fnd 48 (fun c => ¬ cA (V 2 w) (V 7 w) (fnd (V 4 w 3) (fun k => V 5 w k = x)) c = cA (V 2 w) (V 7 w) o c) = -1) < 0 then -1000004 else V 5 w (fnd (V 4 w 3) (fun o => ¬ o = (fnd (V 4 w 3) (fun k => V 5 w k = x)) ∧ fnd 48 (fun c => ¬ cA (V 2 w) (V 7 w) (fnd (V 4 w 3) (fun k => V 5 w k = x)) c = cA (V 2 w) (V 7 w) o c) = -1))) =
    (if mS s x < 0 then -1000001 else if fnd (s 0) (fun k => ¬ mo s k 0 = x ∧ sm 48 (fun c => b2i (¬ mc s k c = mc s (mS s x) c)) = 0) < 0 then -1000004 else mo s (fnd (s 0) (fun k => ¬ mo s k 0 = x ∧ sm 48 (fun c => b2i (¬ mc s k c = mc s (mS s x) c)) = 0)) 0) := by
  rw [hR.slot x]
  by_cases h : mS s x < 0
  · rw [if_pos h, if_pos h]
  · rw [if_neg h, if_neg h]
    have hx := mS_in (s := s) (x := x) (by omega)
    have e : fnd (V 4 w 3) (fun o => ¬ o = mS s x ∧ fnd 48 (fun c => ¬ cA (V 2 w) (V 7 w) (mS s x) c = cA (V 2 w) (V 7 w) o c) = -1) = fnd (s 0) (fun k => ¬ mo s k 0 = x ∧ sm 48 (fun c => b2i (¬ mc s k c = mc s (mS s x) c)) = 0) := by
      rw [hR.n0]
      refine fnd_congr (fun o o0 o1 => ?_)
      have ho := hR.m.i.slot o0 o1
      rw [fnd_m1, sm_b2i_0]
      constructor
      · rintro ⟨a, b⟩
        refine ⟨fun z => a (by rw [← ho, z]), fun c c0 c1 z => b c c0 c1 (fun y => z ?_)⟩
        rw [hR.cell (by omega) hx.1 c0 c1, hR.cell o0 o1 c0 c1] at y
        exact y.symm
      · rintro ⟨a, b⟩
        refine ⟨fun z => a (by rw [z, hx.2]), fun c c0 c1 z => b c c0 c1 (fun y => z ?_)⟩
        rw [hR.cell (by omega) hx.1 c0 c1, hR.cell o0 o1 c0 c1]
        exact y.symm
    rw [e]
    by_cases h2 : fnd (s 0) (fun k => ¬ mo s k 0 = x ∧ sm 48 (fun c => b2i (¬ mc s k c = mc s (mS s x) c)) = 0) < 0
    · rw [if_pos h2, if_pos h2]
    · rw [if_neg h2, if_neg h2]
      have hb := fnd_bd (s 0) (fun k => ¬ mo s k 0 = x ∧ sm 48 (fun c => b2i (¬ mc s k c = mc s (mS s x) c)) = 0) (by have := hR.m.z; omega)
      exact (hR.st _ (by omega) hb.2).1
theorem eq_before (hR : RW V w s) (x c : Int) : (if 0 ≤ (fnd (V 4 w 3) (fun k => V 5 w k = x)) ∧ 0 ≤ c ∧ c < 48 then bfF (pS (V 4 w 3) (V 5 w) (V 6 w)) (V 5 w) (fun s => ¬ cA (V 2 w) (V 7 w) s c = cA (V 2 w) (V 7 w) (fnd (V 4 w 3) (fun k => V 5 w k = x)) c) 16 (fnd (V 4 w 3) (fun k => V 5 w k = x)) else -1000001) =
    (if 0 ≤ mS s x ∧ 0 ≤ c ∧ c ≤ 47 then (if bfG s (fun sl => ¬ mc s sl c = mc s (mS s x) c) 17 x < 0 then -1000004 else bfG s (fun sl => ¬ mc s sl c = mc s (mS s x) c) 17 x) else -1000001) := by
  rw [hR.slot x]
  by_cases h : 0 ≤ mS s x ∧ 0 ≤ c ∧ c < 48
  · rw [if_pos h, if_pos (by omega)]
    have hx := mS_in h.1
    have z := hR.bfo (d := fun sl => ¬ cA (V 2 w) (V 7 w) sl c = cA (V 2 w) (V 7 w) (mS s x) c) (d' := fun sl => ¬ mc s sl c = mc s (mS s x) c) (fun k k0 k1 => by rw [hR.cell k0 k1 h.2.1 h.2.2, hR.cell h.1 hx.1 h.2.1 h.2.2]) 16 (mS s x) h.1 hx.1 (by have := hR.m.z; omega)
    rw [hx.2] at z
    exact z
  · rw [if_neg h, if_neg (by omega)]
end RDs
