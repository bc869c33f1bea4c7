/-! ===== texts of orders, over the reference's numbers ===== -/
theorem DG_det {t : Int → Int} {len f d d' : Int} (h : DGm t len f d) (h' : DGm t len f d') : d = d' := by
  rcases Int.lt_trichotomy d d' with q | q | q
  · exfalso
    rcases h.2.2.2 with z | z
    · have := h'.2.1
      omega
    · exact z (h'.2.2.1 d h.1 q)
  · exact q
  · exfalso
    rcases h'.2.2.2 with z | z
    · have := h.2.1
      omega
    · exact z (h.2.2.1 d' h'.1 q)
theorem DG_le {t : Int → Int} {len f d : Int} (h : DGm t len f d) (hf : f ≤ len) : f + d ≤ len := by
  rcases Int.lt_or_le 0 d with q | q
  · have := (h.2.2.1 (d - 1) (by omega) (by omega)).1
    omega
  · omega
theorem RdN_det {t : Int → Int} {len f0 : Int} {w0 : Int → Int} : ∀ {k : Nat} {a a' f f' : Int} {w w' : Int → Int}, RdN t len f0 w0 k a f w → RdN t len f0 w0 k a' f' w' → a = a' ∧ f = f' ∧ w = w'
  | 0, _, _, _, _, _, _, ⟨d, hd, e1, e2, e3⟩, ⟨d', hd', g1, g2, g3⟩ => by
    have e := DG_det hd hd'
    subst e
    exact ⟨e1.trans g1.symm, e2.trans g2.symm, e3.trans g3.symm⟩
  | k + 1, _, _, _, _, _, _, ⟨f1, w1, h1, c1⟩, ⟨f2, w2, h2, c2⟩ => by
    obtain ⟨-, e1, e2⟩ := RdN_det h1 h2
    subst e1 e2
    rcases c1 with ⟨z, d, hd, e1, e2, e3⟩ | ⟨z, e1, e2, e3⟩ <;> rcases c2 with ⟨z', d', hd', g1, g2, g3⟩ | ⟨z', g1, g2, g3⟩
    · have e := DG_det hd hd'
      subst e
      exact ⟨e1.trans g1.symm, e2.trans g2.symm, e3.trans g3.symm⟩
    · exact absurd z z'
    · exact absurd z' z
    · exact ⟨e1.trans g1.symm, e2.trans g2.symm, e3.trans g3.symm⟩
theorem RdN_pre {t : Int → Int} {len f0 : Int} {w0 : Int → Int} : ∀ {k m : Nat} {a f : Int} {w : Int → Int}, RdN t len f0 w0 k a f w → m < k → ∃ f' w', RdN t len f0 w0 m 1 f' w'
  | 0, m, _, _, _, _, hm => absurd hm (Nat.not_lt_zero _)
  | k + 1, m, _, _, _, ⟨f1, w1, h1, _⟩, hm => by
    by_cases e : m = k
    · subst e; exact ⟨f1, w1, h1⟩
    · exact RdN_pre h1 (by omega)
theorem RdN_w0 {t : Int → Int} {len f0 : Int} {w0 : Int → Int} (z0 : Int → Int) : ∀ {k : Nat} {a f : Int} {w : Int → Int}, RdN t len f0 w0 k a f w → ∃ w', RdN t len f0 z0 k a f w' ∧ (a = 1 → ∀ j, 0 ≤ j → j ≤ (k : Int) → w j = w' j)
  | 0, _, _, _, ⟨d, hd, e1, e2, e3⟩ => ⟨_, ⟨d, hd, e1, e2, rfl⟩, fun _ j j0 j1 => by
    have e : j = 0 := by omega
    rw [e3, e, updI_s, updI_s]⟩
  | k + 1, _, _, _, ⟨f1, w1, h1, c1⟩ => by
    obtain ⟨w2, h2, e2⟩ := RdN_w0 z0 h1
    have e2 := e2 rfl
    rcases c1 with ⟨z, d, hd, g1, g2, g3⟩ | ⟨z, g1, g2, g3⟩
    · refine ⟨_, ⟨f1, w2, h2, Or.inl ⟨z, d, hd, g1, g2, rfl⟩⟩, fun _ j j0 j1 => ?_⟩
      rw [g3]
      by_cases e : j = (k : Int) + 1
      · rw [e, updI_s, updI_s]
      · rw [updI_n e, updI_n e]; exact e2 j j0 (by omega)
    · exact ⟨w2, ⟨f1, w2, h2, Or.inr ⟨z, g1, g2, rfl⟩⟩, fun y => by omega⟩
theorem RdN_le {t : Int → Int} {len f0 : Int} {w0 : Int → Int} (h0 : f0 ≤ len) : ∀ {k : Nat} {a f : Int} {w : Int → Int}, RdN t len f0 w0 k a f w → f0 ≤ f ∧ f ≤ len
  | 0, _, _, _, ⟨d, hd, _, e2, _⟩ => by
    have := DG_le hd h0
    have := hd.1
    omega
  | k + 1, _, _, _, ⟨f1, w1, h1, c1⟩ => by
    have ih := RdN_le h0 h1
    rcases c1 with ⟨z, d, hd, g1, g2, g3⟩ | ⟨z, g1, g2, g3⟩
    · have := DG_le hd (by omega)
      have := hd.1
      omega
    · omega
theorem nm_t {t t' : Int → Int} {f : Int} : ∀ {k : Nat}, (∀ j, f ≤ j → j < f + k → t j = t' j) → nmV t f k = nmV t' f k
  | 0, _ => rfl
  | k + 1, h => by
    show 10 * nmV t f k + t (f + (k : Int)) - 48 = 10 * nmV t' f k + t' (f + (k : Int)) - 48
    rw [nm_t (fun j a b => h j a (by omega)), h (f + k) (by omega) (by omega)]
theorem dg_t {t t' : Int → Int} {len i : Int} (h : ∀ j, 0 ≤ j → j < len → t j = t' j) (i0 : 0 ≤ i) (g : dgA t len i) : dgA t' len i := by
  have := h i i0 g.1
  exact ⟨g.1, by rw [← this]; exact g.2⟩
theorem DG_t {t t' : Int → Int} {len f d : Int} (h : ∀ j, 0 ≤ j → j < len → t j = t' j) (f0 : 0 ≤ f) (g : DGm t len f d) : DGm t' len f d ∧ nmV t f d.toNat = nmV t' f d.toNat := by
  refine ⟨⟨g.1, g.2.1, fun j a b => dg_t h (by omega) (g.2.2.1 j a b), g.2.2.2.imp id (fun z y => z (dg_t (fun j a b => (h j a b).symm) (by have := g.1; omega) y))⟩, nm_t (fun j a b => h j (by omega) ?_)⟩
  have := (g.2.2.1 (j - f) (by omega) (by omega)).1
  omega
theorem RdN_t {t t' : Int → Int} {len f0 : Int} {w0 : Int → Int} (h : ∀ j, 0 ≤ j → j < len → t j = t' j) (p0 : 0 ≤ f0) (h0 : f0 ≤ len) : ∀ {k : Nat} {a f : Int} {w : Int → Int}, RdN t len f0 w0 k a f w → RdN t' len f0 w0 k a f w
  | 0, _, _, _, ⟨d, hd, e1, e2, e3⟩ => by
    have z := DG_t h p0 hd
    exact ⟨d, z.1, e1, e2, by rw [← z.2]; exact e3⟩
  | k + 1, _, _, _, ⟨f1, w1, h1, c1⟩ => by
    have hb := RdN_le h0 h1
    refine ⟨f1, w1, RdN_t h p0 h0 h1, ?_⟩
    rcases c1 with ⟨z, d, hd, g1, g2, g3⟩ | ⟨z, g1, g2, g3⟩
    · have y := DG_t h (by omega) hd
      have e := h f1 (by omega) z.1
      exact Or.inl ⟨by rw [← e]; exact z, d, y.1, g1, g2, by rw [← y.2]; exact g3⟩
    · refine Or.inr ⟨fun y => z ?_, g1, g2, g3⟩
      rw [h f1 (by omega) y.1]; exact y
/-- an order's end stands there -/
def SMC (t : Int → Int) (len g : Int) : Prop := g < len ∧ 59 ≤ t g ∧ t g ≤ 59
/-- what reading an order at a position says: well-formed or not, where it ends or breaks off, its numbers -/
def rdP (t : Int → Int) (len p res f : Int) (w : Int → Int) : Prop :=
  (nbO (t p) = 0 ∧ res = 0 ∧ f = p) ∨ (¬ nbO (t p) = 0 ∧ ∃ (k : Nat) (a g : Int), RdN t len (p + 1) (fun _ => 0) k a g w ∧ (k : Int) + 1 ≤ nbO (t p) ∧ ((k : Int) + 1 = nbO (t p) ∨ a = 0) ∧ ((a = 1 ∧ SMC t len g ∧ res = 1 ∧ f = g + 1) ∨ (¬ (a = 1 ∧ SMC t len g) ∧ res = 0 ∧ f = g)))
theorem rdP_det {t : Int → Int} {len p r r' f f' : Int} {w w' : Int → Int} (h : rdP t len p r f w) (h' : rdP t len p r' f' w') : r = r' ∧ f = f' ∧ (r = 1 → w = w') := by
  rcases h with ⟨a, e1, e2⟩ | ⟨a, k, x, g, hk, b, c, d⟩ <;> rcases h' with ⟨a', e1', e2'⟩ | ⟨a', k', x', g', hk', b', c', d'⟩
  · exact ⟨e1.trans e1'.symm, e2.trans e2'.symm, fun z => by omega⟩
  · exact absurd a a'
  · exact absurd a' a
  · have ek : k = k' := by
      rcases Nat.lt_trichotomy k k' with q | q | q
      · obtain ⟨f1, w1, h1⟩ := RdN_pre hk' q
        have z := (RdN_det hk h1).1
        omega
      · exact q
      · obtain ⟨f1, w1, h1⟩ := RdN_pre hk q
        have z := (RdN_det hk' h1).1
        omega
    subst ek
    obtain ⟨e1, e2, e3⟩ := RdN_det hk hk'
    subst e1 e2 e3
    rcases d with ⟨d1, d2, d3, d4⟩ | ⟨d1, d3, d4⟩ <;> rcases d' with ⟨d1', d2', d3', d4'⟩ | ⟨d1', d3', d4'⟩
    · exact ⟨d3.trans d3'.symm, d4.trans d4'.symm, fun _ => rfl⟩
    · exact absurd ⟨d1, d2⟩ d1'
    · exact absurd ⟨d1', d2'⟩ d1
    · exact ⟨d3.trans d3'.symm, d4.trans d4'.symm, fun _ => rfl⟩
theorem rdP_bd {t : Int → Int} {len p r f : Int} {w : Int → Int} (hp : p < len) (h : rdP t len p r f w) : p ≤ f ∧ f ≤ len ∧ (r = 0 ∨ r = 1) ∧ (r = 1 → p + 1 ≤ f ∧ ¬ nbO (t p) = 0) := by
  rcases h with ⟨a, e1, e2⟩ | ⟨a, k, x, g, hk, b, c, d⟩
  · omega
  · have hb := RdN_le (by omega) hk
    rcases d with ⟨d1, d2, d3, d4⟩ | ⟨d1, d3, d4⟩
    · have := d2.1
      exact ⟨by omega, by omega, Or.inr d3, fun _ => ⟨by omega, a⟩⟩
    · exact ⟨by omega, by omega, Or.inl d3, fun _ => by omega⟩
theorem rdP_t {t t' : Int → Int} {len p r f : Int} {w : Int → Int} (h : ∀ j, 0 ≤ j → j < len → t j = t' j) (p0 : 0 ≤ p) (hp : p < len) (g : rdP t len p r f w) : rdP t' len p r f w := by
  have e := h p p0 hp
  unfold rdP
  rw [← e]
  rcases g with ⟨a, e1, e2⟩ | ⟨a, k, x, g, hk, b, c, d⟩
  · exact Or.inl ⟨a, e1, e2⟩
  · have hb := RdN_le (by omega) hk
    have hS : SMC t len g ↔ SMC t' len g := ⟨fun z => ⟨z.1, by rw [← h g (by omega) z.1]; exact z.2⟩, fun z => ⟨z.1, by rw [h g (by omega) z.1]; exact z.2⟩⟩
    exact Or.inr ⟨a, k, x, g, RdN_t h (by omega) (by omega) hk, b, c, by rw [← hS]; exact d⟩
/-- an order done -/
def odS (s : Int → Int) (kind : Int) (w : Int → Int) (r : Int) (s' : Int → Int) : Prop :=
  (kind = 119 ∧ qFi s (w 0) (w 1) 1 (w 2) r s') ∨ (kind = 102 ∧ qFi s (w 0) (w 1) (w 2) (w 3) r s') ∨ (kind = 109 ∧ qMe s (w 0) (w 1) r s') ∨ (kind = 98 ∧ qBr s (w 0) r s') ∨ ((¬ kind = 119 ∧ ¬ kind = 102 ∧ ¬ kind = 109 ∧ ¬ kind = 98) ∧ qFo s (w 0) r s')
theorem odS_det {s s1 s2 w : Int → Int} {k r1 r2 : Int} (h1 : odS s k w r1 s1) (h2 : odS s k w r2 s2) : r1 = r2 ∧ s1 = s2 := by
  rcases h1 with ⟨a, h1⟩ | ⟨a, h1⟩ | ⟨a, h1⟩ | ⟨a, h1⟩ | ⟨a, h1⟩ <;> rcases h2 with ⟨b, h2⟩ | ⟨b, h2⟩ | ⟨b, h2⟩ | ⟨b, h2⟩ | ⟨b, h2⟩
  all_goals first
    | exact qFi_det h1 h2
    | exact qMe_det h1 h2
    | exact qBr_det h1 h2
    | exact qFo_det h1 h2
    | (exfalso; omega)
theorem odS_MV {s s' w : Int → Int} {k r : Int} (hM : MV s) (h : odS s k w r s') : MV s' ∧ s' 1 ≤ s 1 + 1 := by
  rcases h with ⟨_, h⟩ | ⟨_, h⟩ | ⟨_, h⟩ | ⟨_, h⟩ | ⟨_, h⟩
  · exact qFi_MV hM h
  · exact qFi_MV hM h
  · exact qMe_MV hM h
  · exact qBr_MV hM h
  · exact qFo_MV hM h
theorem odS_w {s s' w w' : Int → Int} {k r : Int} (hk : ¬ nbO k = 0) (h : ∀ j, 0 ≤ j → j < nbO k → w j = w' j) (g : odS s k w r s') : odS s k w' r s' := by
  unfold nbO at hk h
  rcases g with ⟨a, g⟩ | ⟨a, g⟩ | ⟨a, g⟩ | ⟨a, g⟩ | ⟨a, g⟩
  · rw [if_pos a] at h
    rw [h 0 (by omega) (by omega), h 1 (by omega) (by omega), h 2 (by omega) (by omega)] at g
    exact Or.inl ⟨a, g⟩
  · rw [if_neg (show ¬ k = 119 by omega), if_pos a] at h
    rw [h 0 (by omega) (by omega), h 1 (by omega) (by omega), h 2 (by omega) (by omega), h 3 (by omega) (by omega)] at g
    exact Or.inr (Or.inl ⟨a, g⟩)
  · rw [if_neg (show ¬ k = 119 by omega), if_neg (show ¬ k = 102 by omega), if_pos a] at h
    rw [h 0 (by omega) (by omega), h 1 (by omega) (by omega)] at g
    exact Or.inr (Or.inr (Or.inl ⟨a, g⟩))
  · rw [if_neg (show ¬ k = 119 by omega), if_neg (show ¬ k = 102 by omega), if_neg (show ¬ k = 109 by omega), if_pos (show k = 98 ∨ k = 120 by omega)] at h
    rw [h 0 (by omega) (by omega)] at g
    exact Or.inr (Or.inr (Or.inr (Or.inl ⟨a, g⟩)))
  · rw [if_neg a.1, if_neg a.2.1, if_neg a.2.2.1] at h hk
    by_cases e : k = 98 ∨ k = 120
    · rw [if_pos e] at h
      rw [h 0 (by omega) (by omega)] at g
      exact Or.inr (Or.inr (Or.inr (Or.inr ⟨a, g⟩)))
    · rw [if_neg e] at hk
      exact absurd rfl hk
/-- after n orders: the numbers, the position -/
def plC (t : Int → Int) (len : Int) (s0 : Int → Int) : Nat → (Int → Int) → Int → Prop
  | 0, s, f => s = s0 ∧ f = 0
  | n + 1, s, f => ∃ (s1 : Int → Int) (f1 : Int) (w : Int → Int) (r : Int), plC t len s0 n s1 f1 ∧ f1 < len ∧ rdP t len f1 1 f w ∧ odS s1 (t f1) w r s ∧ 0 ≤ r
/-- how it ends: all done, or the fault's position, reason and cause -/
def plE (t : Int → Int) (len : Int) (s0 : Int → Int) (n : Nat) (res pos rea cau : Int) (s : Int → Int) : Prop :=
  ∃ (s1 : Int → Int) (f1 : Int), plC t len s0 n s1 f1 ∧ ((len ≤ f1 ∧ res = 1 ∧ s = s1) ∨ (f1 < len ∧ res = 0 ∧ pos = f1 ∧ rea = 1 ∧ ∃ (f : Int) (w : Int → Int), rdP t len f1 0 f w ∧ cau = f - f1 ∧ s = s1) ∨
    (f1 < len ∧ res = 0 ∧ pos = f1 ∧ rea = 2 ∧ ∃ (f : Int) (w : Int → Int), rdP t len f1 1 f w ∧ odS s1 (t f1) w cau s ∧ cau < 0))
theorem plC_det {t : Int → Int} {len : Int} {s0 : Int → Int} : ∀ {n : Nat} {s s' : Int → Int} {f f' : Int}, plC t len s0 n s f → plC t len s0 n s' f' → s = s' ∧ f = f'
  | 0, _, _, _, _, h, h' => ⟨h.1.trans h'.1.symm, h.2.trans h'.2.symm⟩
  | n + 1, _, _, _, _, ⟨s1, f1, w, r, h, a, b, c, d⟩, ⟨s1', f1', w', r', h', a', b', c', d'⟩ => by
    obtain ⟨rfl, rfl⟩ := plC_det h h'
    obtain ⟨-, e, ew⟩ := rdP_det b b'
    have ew := ew rfl
    subst ew
    exact ⟨(odS_det c c').2, e⟩
theorem plC_pre {t : Int → Int} {len : Int} {s0 : Int → Int} : ∀ {n m : Nat} {s : Int → Int} {f : Int}, plC t len s0 n s f → m < n → ∃ s1 f1 f2 w r s2, plC t len s0 m s1 f1 ∧ f1 < len ∧ rdP t len f1 1 f2 w ∧ odS s1 (t f1) w r s2 ∧ 0 ≤ r
  | 0, _, _, _, _, hm => absurd hm (Nat.not_lt_zero _)
  | n + 1, m, s, f, ⟨s1, f1, w, r, h, a, b, c, d⟩, hm => by
    by_cases e : m = n
    · subst e; exact ⟨s1, f1, f, w, r, s, h, a, b, c, d⟩
    · exact plC_pre h (by omega)
theorem plE_no {t : Int → Int} {len : Int} {s0 s s' : Int → Int} {n n' : Nat} {a b c d a' b' c' d' : Int} (h : plE t len s0 n a b c d s) (h' : plE t len s0 n' a' b' c' d' s') : ¬ n < n' := by
  intro hn
  obtain ⟨s1, f1, hc, he⟩ := h
  obtain ⟨s1', f1', hc', -⟩ := h'
  obtain ⟨t1, g1, f2, w, r, s2, h1, hl, hr, ho, h0⟩ := plC_pre hc' hn
  obtain ⟨rfl, rfl⟩ := plC_det hc h1
  rcases he with ⟨z, _⟩ | ⟨_, _, _, _, f, w', hr', _⟩ | ⟨_, _, _, _, f, w', hr', ho', hn⟩
  · omega
  · have := (rdP_det hr hr').1
    omega
  · have e := (rdP_det hr hr').2.2 rfl
    subst e
    have := (odS_det ho ho').1
    omega
theorem plE_det {t : Int → Int} {len : Int} {s0 s s' : Int → Int} {n n' : Nat} {a b c d a' b' c' d' : Int} (h : plE t len s0 n a b c d s) (h' : plE t len s0 n' a' b' c' d' s') : n = n' ∧ a = a' ∧ s = s' ∧ (a = 0 → b = b' ∧ c = c' ∧ d = d') := by
  have en : n = n' := by
    have := plE_no h h'
    have := plE_no h' h
    omega
  subst en
  obtain ⟨s1, f1, hc, he⟩ := h
  obtain ⟨s1', f1', hc', he'⟩ := h'
  obtain ⟨rfl, rfl⟩ := plC_det hc hc'
  refine ⟨rfl, ?_⟩
  rcases he with ⟨z, z1, z2⟩ | ⟨z, z1, z2, z3, f, w, hr, z4, z5⟩ | ⟨z, z1, z2, z3, f, w, hr, z4, z5⟩ <;> rcases he' with ⟨y, y1, y2⟩ | ⟨y, y1, y2, y3, f', w', hr', y4, y5⟩ | ⟨y, y1, y2, y3, f', w', hr', y4, y5⟩
  · exact ⟨z1.trans y1.symm, z2.trans y2.symm, fun q => by omega⟩
  · omega
  · omega
  · omega
  · have e := (rdP_det hr hr').2.1
    exact ⟨by omega, z5.trans y5.symm, fun _ => by omega⟩
  · have := (rdP_det hr hr').1
    omega
  · omega
  · have := (rdP_det hr hr').1
    omega
  · have e := (rdP_det hr hr').2.2 rfl
    subst e
    have e2 := odS_det z4 y4
    exact ⟨by omega, e2.2, fun _ => ⟨by omega, by omega, e2.1⟩⟩
theorem plC_bd {t : Int → Int} {len : Int} {s0 : Int → Int} (hl : 0 ≤ len) (hM : MV s0) : ∀ {n : Nat} {s : Int → Int} {f : Int}, plC t len s0 n s f → (n : Int) ≤ f ∧ f ≤ len ∧ MV s ∧ s 1 ≤ s0 1 + n
  | 0, _, _, h => by
    obtain ⟨rfl, rfl⟩ := h
    exact ⟨by omega, hl, hM, by omega⟩
  | n + 1, _, _, ⟨s1, f1, w, r, h, a, b, c, d⟩ => by
    have ih := plC_bd hl hM h
    have hb := rdP_bd a b
    have hm := odS_MV ih.2.2.1 c
    have := hb.2.2.2 rfl
    exact ⟨by omega, hb.2.1, hm.1, by omega⟩
theorem plC_t {t t' : Int → Int} {len : Int} {s0 : Int → Int} (hl : 0 ≤ len) (hM : MV s0) (ht : ∀ j, 0 ≤ j → j < len → t j = t' j) : ∀ {n : Nat} {s : Int → Int} {f : Int}, plC t len s0 n s f → plC t' len s0 n s f
  | 0, _, _, h => h
  | n + 1, _, _, ⟨s1, f1, w, r, h, a, b, c, d⟩ => by
    have hb := plC_bd hl hM h
    exact ⟨s1, f1, w, r, plC_t hl hM ht h, a, rdP_t ht (by omega) a b, by rw [← ht f1 (by omega) a]; exact c, d⟩
theorem plE_t {t t' : Int → Int} {len : Int} {s0 s : Int → Int} {n : Nat} {a b c d : Int} (hl : 0 ≤ len) (hM : MV s0) (ht : ∀ j, 0 ≤ j → j < len → t j = t' j) (h : plE t len s0 n a b c d s) : plE t' len s0 n a b c d s := by
  obtain ⟨s1, f1, hc, he⟩ := h
  have hb := plC_bd hl hM hc
  refine ⟨s1, f1, plC_t hl hM ht hc, ?_⟩
  rcases he with z | ⟨z, z1, z2, z3, f, w, hr, z4, z5⟩ | ⟨z, z1, z2, z3, f, w, hr, z4, z5⟩
  · exact Or.inl z
  · exact Or.inr (Or.inl ⟨z, z1, z2, z3, f, w, rdP_t ht (by omega) z hr, z4, z5⟩)
  · exact Or.inr (Or.inr ⟨z, z1, z2, z3, f, w, rdP_t ht (by omega) z hr, by rw [← ht f1 (by omega) z]; exact z4, z5⟩)
theorem plE_MV {t : Int → Int} {len : Int} {s0 s : Int → Int} {n : Nat} {a b c d : Int} (hl : 0 ≤ len) (hM : MV s0) (h : plE t len s0 n a b c d s) : MV s ∧ s 1 ≤ s0 1 + n + 1 ∧ (n : Int) ≤ len ∧ (a = 0 ∨ a = 1) := by
  obtain ⟨s1, f1, hc, he⟩ := h
  have hb := plC_bd hl hM hc
  rcases he with ⟨z, z1, rfl⟩ | ⟨z, z1, z2, z3, f, w, hr, z4, rfl⟩ | ⟨z, z1, z2, z3, f, w, hr, z4, z5⟩
  · exact ⟨hb.2.2.1, by omega, by omega, Or.inr z1⟩
  · exact ⟨hb.2.2.1, by omega, by omega, Or.inl z1⟩
  · have := odS_MV hb.2.2.1 z4
    exact ⟨this.1, by omega, by omega, Or.inl z1⟩
