/-! ===== words for what the methods answer; rows for the walks of the class and the reference ===== -/
section SP
variable {X : Cx} {l0 : Launch} {G : Gl} {R0 : Room} {cc : ByteArray} {nL : Nat} {Ts : List Cond} {own : String} {ret : Option FieldType} {mk : Int → Option Value} {post : Int → (Nat → Nat) → Vt → Prop} {P : Nat → Nat} {V : Vt} {uc us mt mst : Nat} {L : List (Option Value)} {pc : Nat} {st : List Value}
noncomputable def b2i (p : Prop) : Int := @ite _ p (Classical.propDecidable p) 1 0
theorem b2i_t {p : Prop} (h : p) : b2i p = 1 := if_pos h
theorem b2i_f {p : Prop} (h : ¬ p) : b2i p = 0 := if_neg h
theorem b2i_01 (p : Prop) : b2i p = 0 ∨ b2i p = 1 := by
  by_cases h : p
  · exact Or.inr (b2i_t h)
  · exact Or.inl (b2i_f h)
theorem b2i_b (p : Prop) : 0 ≤ b2i p ∧ b2i p ≤ 1 := by rcases b2i_01 p with h | h <;> omega
theorem b2i_eq0 {p : Prop} : b2i p = 0 ↔ ¬ p := ⟨fun h q => by rw [b2i_t q] at h; omega, b2i_f⟩
theorem b2i_eq1 {p : Prop} : b2i p = 1 ↔ p := ⟨fun h => Classical.byContradiction fun q => by rw [b2i_f q] at h; omega, b2i_t⟩
theorem b2i_iff {p q : Prop} (h : p ↔ q) : b2i p = b2i q := by
  by_cases hp : p
  · rw [b2i_t hp, b2i_t (h.mp hp)]
  · rw [b2i_f hp, b2i_f (fun z => hp (h.mpr z))]
def smN (f : Int → Int) : Nat → Int
  | 0 => 0
  | n + 1 => smN f n + f n
/-- the sum over 0 .. n-1 -/
def sm (n : Int) (f : Int → Int) : Int := smN f n.toNat
theorem sm_0 {f : Int → Int} {n : Int} (h : n ≤ 0) : sm n f = 0 := by
  unfold sm; rw [show n.toNat = 0 by omega]; rfl
theorem sm_s {f : Int → Int} {k : Int} (h : 0 ≤ k) : sm (k + 1) f = sm k f + f k := by
  unfold sm
  rw [show (k + 1).toNat = k.toNat + 1 by omega]
  show smN f k.toNat + f (k.toNat : Int) = _
  rw [Int.toNat_of_nonneg h]
theorem smN_congr {f g : Int → Int} : ∀ n : Nat, (∀ j : Int, 0 ≤ j → j < n → f j = g j) → smN f n = smN g n
  | 0, _ => rfl
  | n + 1, h => by
    show smN f n + f n = smN g n + g n
    rw [smN_congr n (fun j h0 h1 => h j h0 (by omega)), h n (by omega) (by omega)]
theorem sm_congr {n : Int} {f g : Int → Int} (h : ∀ j : Int, 0 ≤ j → j < n → f j = g j) : sm n f = sm n g := smN_congr _ (fun j h0 h1 => h j h0 (by omega))
theorem smN_bd {f : Int → Int} {c : Int} : ∀ n : Nat, (∀ j : Int, 0 ≤ j → j < n → 0 ≤ f j ∧ f j ≤ c) → 0 ≤ smN f n ∧ smN f n ≤ c * n
  | 0, _ => by simp [smN]
  | n + 1, h => by
    have h1 := smN_bd n (fun j h0 h1 => h j h0 (by omega))
    have h2 := h n (by omega) (by omega)
    show 0 ≤ smN f n + f n ∧ smN f n + f n ≤ c * ((n : Int) + 1)
    rw [Int.mul_add]
    omega
theorem sm_bd {n : Int} {f : Int → Int} (c : Int) (hn : 0 ≤ n) (h : ∀ j : Int, 0 ≤ j → j < n → 0 ≤ f j ∧ f j ≤ c) : 0 ≤ sm n f ∧ sm n f ≤ c * n := by
  have := smN_bd (c := c) (f := f) n.toNat (fun j h0 h1 => h j h0 (by omega))
  unfold sm
  rw [Int.toNat_of_nonneg hn] at this
  exact this
theorem sm_b2i_bd {n : Int} {p : Int → Prop} (hn : 0 ≤ n) : 0 ≤ sm n (fun j => b2i (p j)) ∧ sm n (fun j => b2i (p j)) ≤ n := by
  have := sm_bd (n := n) (f := fun j => b2i (p j)) 1 hn (fun j _ _ => b2i_b _)
  omega
/-- the first of 0 .. n-1 with a property, or -1 -/
noncomputable def fnd (n : Int) (p : Int → Prop) : Int := @dite _ (∃ k : Int, 0 ≤ k ∧ k < n ∧ p k ∧ ∀ j, 0 ≤ j → j < k → ¬ p j) (Classical.propDecidable _) (fun h => Classical.choose h) (fun _ => -1)
theorem fnd_y {n k : Int} {p : Int → Prop} (h0 : 0 ≤ k) (h1 : k < n) (h2 : p k) (h3 : ∀ j, 0 ≤ j → j < k → ¬ p j) : fnd n p = k := by
  have hx : ∃ k : Int, 0 ≤ k ∧ k < n ∧ p k ∧ ∀ j, 0 ≤ j → j < k → ¬ p j := ⟨k, h0, h1, h2, h3⟩
  have hc := Classical.choose_spec hx
  have e : fnd n p = Classical.choose hx := dif_pos hx
  rw [e]
  rcases Int.lt_trichotomy (Classical.choose hx) k with h | h | h
  · exact absurd hc.2.2.1 (h3 _ hc.1 h)
  · exact h
  · exact absurd h2 (hc.2.2.2 _ h0 h)
theorem fnd_n {n : Int} {p : Int → Prop} (h : ∀ j, 0 ≤ j → j < n → ¬ p j) : fnd n p = -1 :=
  dif_neg (fun ⟨k, h0, h1, h2, _⟩ => h k h0 h1 h2)
theorem fnd_c (n : Int) (p : Int → Prop) : (fnd n p = -1 ∧ ∀ j, 0 ≤ j → j < n → ¬ p j) ∨ (0 ≤ fnd n p ∧ fnd n p < n ∧ p (fnd n p) ∧ ∀ j, 0 ≤ j → j < fnd n p → ¬ p j) := by
  have key : ∀ m : Nat, (∀ j : Int, 0 ≤ j → j < m → ¬ p j) ∨ ∃ k : Int, 0 ≤ k ∧ k < m ∧ p k ∧ ∀ j, 0 ≤ j → j < k → ¬ p j := by
    intro m
    induction m with
    | zero => exact Or.inl (fun j h0 h1 => by omega)
    | succ m ih =>
      rcases ih with h | ⟨k, h0, h1, h2, h3⟩
      · by_cases hp : p m
        · exact Or.inr ⟨m, by omega, by omega, hp, fun j g0 g1 => h j g0 g1⟩
        · refine Or.inl (fun j g0 g1 => ?_)
          rcases Int.lt_or_le j m with q | q
          · exact h j g0 q
          · rw [show j = (m : Int) by omega]; exact hp
      · exact Or.inr ⟨k, h0, by omega, h2, h3⟩
  rcases key n.toNat with h | ⟨k, h0, h1, h2, h3⟩
  · have hn : ∀ j, 0 ≤ j → j < n → ¬ p j := fun j h0 h1 => h j h0 (by omega)
    exact Or.inl ⟨fnd_n hn, hn⟩
  · have e := fnd_y (n := n) h0 (by omega) h2 h3
    exact Or.inr (by rw [e]; exact ⟨h0, by omega, h2, h3⟩)
theorem fnd_bd (n : Int) (p : Int → Prop) (hn : 0 ≤ n) : -1 ≤ fnd n p ∧ fnd n p < n := by
  rcases fnd_c n p with h | h <;> omega
theorem fnd_congr {n : Int} {p q : Int → Prop} (h : ∀ j : Int, 0 ≤ j → j < n → (p j ↔ q j)) : fnd n p = fnd n q := by
  rcases fnd_c n q with ⟨e, g⟩ | ⟨h0, h1, h2, h3⟩
  · rw [e]; exact fnd_n (fun j a b => fun z => g j a b ((h j a b).mp z))
  · exact fnd_y h0 h1 ((h _ h0 h1).mpr h2) (fun j a b z => h3 j a b ((h j a (by omega)).mp z))
/-- what never need be compared: counters, and rows that are only copied -/
def ctr (r : Nat) (j : Int) : Prop := r = 1 ∨ (r = 0 ∧ j = 5) ∨ r = 16 ∨ r = 20 ∨ r = 21 ∨ r = 22
def BV (V : Vt) : Prop := ∀ (r w : Nat) (j : Int), ¬ ctr r j → inR (V r w j)
def sfR (r : Nat) : Bool := !(Nat.beq r 0 || Nat.beq r 1 || Nat.beq r 16 || Nat.beq r 20 || Nat.beq r 21 || Nat.beq r 22)
theorem sfR_ctr {r : Nat} {j : Int} (h : sfR r = true) : ¬ ctr r j := by
  intro hz
  rcases hz with rfl | ⟨rfl, -⟩ | rfl | rfl | rfl | rfl <;> cases h
theorem BV.g {V : Vt} (h : BV V) (r w : Nat) (j : Int) (hr : sfR r = true) : inR (V r w j) := h r w j (sfR_ctr hr)
theorem BV.g0 {V : Vt} (h : BV V) (w : Nat) : inR (V 0 w 4) := h 0 w 4 (by intro hz; simp only [ctr] at hz; omega)
theorem BV_upF {V : Vt} {r w : Nat} {g : Int → Int} (h : BV V) (hx : ∀ j, ¬ ctr r j → inR (g j)) : BV (up V r w g) := by
  intro r' w' j hj
  by_cases hq : r' = r ∧ w' = w
  · obtain ⟨rfl, rfl⟩ := hq
    rw [up_s]; exact hx j hj
  · rw [up_o hq]; exact h r' w' j hj
theorem BV_up {V : Vt} {r w : Nat} {i x : Int} (h : BV V) (hx : ¬ ctr r i → inR x) : BV (up V r w (updI (V r w) i x)) := by
  refine BV_upF h (fun j hj => ?_)
  unfold updI
  split
  · rename_i e; subst e; exact hx hj
  · exact h r w j hj
def cpI (f g : Int → Int) (sp dp n : Int) : Int → Int := fun j => if dp ≤ j ∧ j < dp + n then f (sp + (j - dp)) else g j
theorem BV_upC {V : Vt} {r1 w1 r2 w2 : Nat} {sp dp n : Int} (h : BV V) (h1 : sfR r1 = true) : BV (up V r2 w2 (cpI (V r1 w1) (V r2 w2) sp dp n)) := by
  refine BV_upF h (fun j hj => ?_)
  unfold cpI
  split
  · exact h.g r1 w1 _ h1
  · exact h r2 w2 j hj
theorem zz_cat {av : List Value} (h : av.all (fun v => Nat.beq v.category 1) = true) : ∀ v ∈ av, v.category = 1 := fun v hv => Nat.eq_of_beq_eq_true (List.all_eq_true.mp h v hv)
theorem Kz.drop (i : Nat) {L' : List (Option Value)} (hl : L.set i none = L') (kk : Kz X G P V uc us L' pc st) : Kz X G P V uc us L pc st := by
  subst hl
  refine Kz.sub (by rw [List.length_set]) (fun j v h => ?_) kk
  rw [List.getElem?_set] at h
  split at h
  · split at h <;> cases h
  · exact h
theorem z_dtI {F : Int} {P2 : Nat → Nat} {V2 : Vt} (kk : Kz X G P2 V2 uc us L pc (.int (iI F) :: st)) : ∀ (r : Int) (P' : Nat → Nat) (V' : Vt), dt F P2 V2 r P' V' → Kz X G P' V' uc us L pc ((mkI r).toList ++ st) := by
  rintro r P' V' ⟨rfl, rfl, rfl⟩; exact kk
theorem z_dtV {F : Int} {P2 : Nat → Nat} {V2 : Vt} (kk : Kz X G P2 V2 uc us L pc st) : ∀ (r : Int) (P' : Nat → Nat) (V' : Vt), dt F P2 V2 r P' V' → Kz X G P' V' uc us L pc ((mkV r).toList ++ st) := by
  rintro r P' V' ⟨rfl, rfl, rfl⟩; exact kk
theorem z_exI {pst : Int → (Nat → Nat) → Vt → Prop} (kk : ∀ (r : Int) (P' : Nat → Nat) (V' : Vt), pst r P' V' → Kz X G P' V' uc us L pc (.int (iI r) :: st)) : ∀ (r : Int) (P' : Nat → Nat) (V' : Vt), pst r P' V' → Kz X G P' V' uc us L pc ((mkI r).toList ++ st) := kk
theorem z_exR {pst : Int → (Nat → Nat) → Vt → Prop} (kk : ∀ (r : Int) (P' : Nat → Nat) (V' : Vt), pst r P' V' → Kz X G P' V' uc us L pc (.ref (ad G 0 r.toNat) :: st)) : ∀ (r : Int) (P' : Nat → Nat) (V' : Vt), pst r P' V' → Kz X G P' V' uc us L pc ((mkR G r).toList ++ st) := kk
theorem z_exV {pst : (Nat → Nat) → Vt → Prop} (kk : ∀ (P' : Nat → Nat) (V' : Vt), pst P' V' → Kz X G P' V' uc us L pc st) : ∀ (r : Int) (P' : Nat → Nat) (V' : Vt), pst P' V' → Kz X G P' V' uc us L pc ((mkV r).toList ++ st) := fun _ P' V' h => kk P' V' h
theorem z_ifeq_b (E : Ev X l0 G R0 cc nL Ts own) {q : Prop} {off : Int} (tgt : Nat) (hdg : decode cc pc = .ok (.ifCond .eq off, 3)) (ht : (pc : Int) + off = (tgt : Int)) (kt : ¬ q → Kz X G P V uc us L tgt st) (kf : q → Kz X G P V uc us L (pc + 3) st) : Kz X G P V uc us L pc (.int (iI (b2i q)) :: st) :=
  z_if_eq E tgt hdg ht (by have := b2i_b q; omega) (fun h => kt (b2i_eq0.mp h)) (fun h => kf (Classical.byContradiction fun z => h (b2i_f z)))
theorem z_ifne_b (E : Ev X l0 G R0 cc nL Ts own) {q : Prop} {off : Int} (tgt : Nat) (hdg : decode cc pc = .ok (.ifCond .ne off, 3)) (ht : (pc : Int) + off = (tgt : Int)) (kt : q → Kz X G P V uc us L tgt st) (kf : ¬ q → Kz X G P V uc us L (pc + 3) st) : Kz X G P V uc us L pc (.int (iI (b2i q)) :: st) :=
  z_if_ne E tgt hdg ht (by have := b2i_b q; omega) (fun h => kt (Classical.byContradiction fun z => h (b2i_f z))) (fun h => kf (b2i_eq0.mp h))
theorem nst_X0_31 {U : State} (h : Nst U) : va_Nw (.methodLinkNest RX0 31 yX5_isIndex "SharedStates") U := h.1
theorem nst_X3_41 {U : State} (h : Nst U) : va_Nw (.methodLinkNest RX3 41 yX5_isIndex "SharedStates") U := h.2.1
theorem nst_X4_52 {U : State} (h : Nst U) : va_Nw (.methodLinkNest RX4 52 yX5_isIndex "SharedStates") U := h.2.2.1
theorem nst_X4_98 {U : State} (h : Nst U) : va_Nw (.methodLinkNest RX4 98 yX5_isRange "SharedStates") U := h.2.2.2
theorem z_acopy (E : Ev X l0 G R0 cc nL Ts own) {index : Nat} (f0 : Cond.methodLink own index arraycopyName ∈ Ts) (f1 : Cond.native arraycopyName ∈ Ts) (f2 : Cond.static arraycopyName ∈ Ts) (f3 : Cond.initialized "java/lang/System" ∈ Ts) {r1 w1 r2 w2 : Nat} (hv1 : vl G r1 w1 = true) (hv2 : vl G r2 w2 = true) (n1 : Nat) (hn1 : n1 ≤ 100000) (n2 : Nat) (hn2 : n2 ≤ 100000) (he1 : ∀ f : Int → Int, cE G P f r1 w1 = aE G n1 f) (he2 : ∀ f : Int → Int, cE G P f r2 w2 = aE G n2 f) {sp dp n : Int} (h1 : 0 ≤ sp) (h2 : 0 ≤ dp) (h3 : 0 ≤ n) (h4 : sp + n ≤ n1) (h5 : dp + n ≤ n2)
    (hfr : 1 ≤ R0.frames) (hlo : (st.map fun v => v.category).sum + (nativeFrameWords "java/lang/System" "arraycopy" 5 + 11) ≤ R0.locals) (hnl : nL = L.length) (hdg : decode cc pc = .ok (.invokestatic index, 3))
    (kk : Kz X G P (up V r2 w2 (cpI (V r1 w1) (V r2 w2) sp dp n)) uc us L (pc + 3) st) : Kz X G P V uc us L pc (.int (iI n) :: .int (iI dp) :: .ref (ad G r2 w2) :: .int (iI sp) :: .ref (ad G r1 w1) :: st) := by
  obtain ⟨p, l, e, R, s, m, args, below, meth, c, Q, A⟩ := X
  intro H locs ls hP hS hL
  have c1 : (iI sp).toNatClampNeg = sp.toNat := iI_clamp h1 (by omega)
  have c2 : (iI dp).toNatClampNeg = dp.toNat := iI_clamp h2 (by omega)
  have c3 : (iI n).toNatClampNeg = n.toNat := iI_clamp h3 (by omega)
  have nn : ∀ x : Int, 0 ≤ x → x ≤ 100000 → ¬ iI x < 0 := fun x a b => by rw [iI_0, iI_lt (by omega) (by omega)]; omega
  obtain ⟨E1, hK, hG, rfl, rfl, hA⟩ := E
  refine va_copyi (ty := .int) (f := fun j : Nat => iI (V r1 w1 (j : Int))) (g := fun j : Nat => iI (V r2 w2 (j : Int))) E1.1 E1.2.1 (by rw [E1.2.2.1, hL.1, hnl]) E1.2.2.2.1 (E1.2.2.2.2 _ f0) (E1.2.2.2.2 _ f1) (E1.2.2.2.2 _ f2) (E1.2.2.2.2 _ f3) hK.1 hP (WL_DA hG hA) hS (psn r1 w1) (psn r2 w2) 0 0 (by rw [WL_at hv1, he1]; rfl) (by rw [WL_at hv2, he2]; rfl) rfl rfl rfl (nn _ h1 (by omega)) (nn _ h2 (by omega)) (nn _ h3 (by omega)) (by rw [c1, c3]; omega) (by rw [c2, c3]; omega) (fun _ _ => rfl) hfr hlo hdg (fun H1 locs1 hP1 _ hS1 => ?_)
  have hset : (.inl (gI G, n2, .inl (va_cpy (fun j : Nat => iI (V r1 w1 (j : Int))) (fun j : Nat => iI (V r2 w2 (j : Int))) (iI sp).toNatClampNeg (iI dp).toNatClampNeg (iI n).toNatClampNeg)) : va_E) = aE G n2 (cpI (V r1 w1) (V r2 w2) sp dp n) := by
    unfold aE
    congr 4
    funext j
    rw [c1, c2, c3]
    unfold va_cpy cpI
    by_cases hj : dp.toNat ≤ j ∧ j < dp.toNat + n.toNat
    · rw [if_pos hj, if_pos (by omega)]; dsimp only; rw [show ((sp.toNat + (j - dp.toNat) : Nat) : Int) = sp + ((j : Int) - dp) by omega]
    · rw [if_neg hj, if_neg (by omega)]
  rw [hset, WL_set (P' := P) (V' := up V r2 w2 (cpI (V r1 w1) (V r2 w2) sp dp n)) hv2 (by rw [up_s]; exact he2 _) (fun r' w' _ hne => by rw [up_o hne])] at hP1
  exact kk H1 locs1 ls hP1 hS1 hL
theorem arrV_congr {cA : ClassId} {n : Nat} {z z' : Nat → Value} (h : ∀ j, j < n → z j = z' j) : arrV cA n z = arrV cA n z' := by
  unfold arrV
  congr 1
  apply Array.ext
  · simp
  · intro i h1 h2
    simp at h1 ⊢
    exact h i (by omega)
theorem aE_congr {G : Gl} {D : va_G} {cl : List vw_C} {a n : Nat} {f g : Int → Int} {H : Heap} (h : ∀ j : Int, 0 ≤ j → j < n → f j = g j) (hP : va_at D cl (a, aE G n f) H) : va_at D cl (a, aE G n g) H := by
  show H[a]? = some (vp_cell _ _)
  have hP : H[a]? = some (vp_cell (gI G) (n, .inl (fun j : Nat => iI (f (j : Int))))) := hP
  rw [hP, vp_cell_i, vp_cell_i, arrV_congr (z' := fun j : Nat => .int (iI (g (j : Int)))) (fun j hj => by rw [h j (by omega) (by omega)])]
theorem WL_row {D : va_G} {cl : List vw_C} {V V' : Vt} {r w n : Nat} {H : Heap} (hv : vl G r w = true) (he : ∀ f : Int → Int, cE G P f r w = aE G n f) (ho : ∀ r' w', ¬ (r' = r ∧ w' = w) → V' r' w' = V r' w') (h : ∀ j : Int, 0 ≤ j → j < n → V r w j = V' r w j) (hP : va_P D cl (WL G P V) H) : va_P D cl (WL G P V') H := by
  intro k q hq
  simp only [WL, List.getElem?_map] at hq
  cases hp : (prs G)[k]? with
  | none => rw [hp] at hq; cases hq
  | some z =>
    obtain ⟨r', w'⟩ := z
    rw [hp] at hq
    cases hq
    have hi := prs_inv hp
    have h0 := hP k (ad G r' w', cE G P (V r' w') r' w') (by simp [WL, List.getElem?_map, hp])
    by_cases hz : r' = r ∧ w' = w
    · obtain ⟨rfl, rfl⟩ := hz
      rw [he] at h0
      show va_at D cl (ad G r' w', cE G P (V' r' w') r' w') H
      rw [he]
      exact aE_congr h h0
    · show va_at D cl (ad G r' w', cE G P (V' r' w') r' w') H
      rw [ho r' w' hz]; exact h0
/-- a row of numbers may be called otherwise beyond its length -/
theorem z_row {V' : Vt} {r w n : Nat} (hv : vl G r w = true) (he : ∀ f : Int → Int, cE G P f r w = aE G n f) (ho : ∀ r' w', ¬ (r' = r ∧ w' = w) → V' r' w' = V r' w') (h : ∀ j : Int, 0 ≤ j → j < n → V r w j = V' r w j) (kk : Kz X G P V' uc us L pc st) : Kz X G P V uc us L pc st := by
  obtain ⟨p, l, e, R, s, m, args, below, meth, c, Q, A⟩ := X
  intro H locs ls hP hS hL
  exact kk H locs ls (WL_row hv he ho h hP) hS hL
theorem z_acopyF (E : Ev X l0 G R0 cc nL Ts own) {index : Nat} (f0 : Cond.methodLink own index arraycopyName ∈ Ts) (f1 : Cond.native arraycopyName ∈ Ts) (f2 : Cond.static arraycopyName ∈ Ts) (f3 : Cond.initialized "java/lang/System" ∈ Ts) {r1 w1 r2 w2 : Nat} (hv1 : vl G r1 w1 = true) (hv2 : vl G r2 w2 = true) (n1 : Nat) (hn1 : n1 ≤ 100000) (n2 : Nat) (hn2 : n2 ≤ 100000) (he1 : ∀ f : Int → Int, cE G P f r1 w1 = aE G n1 f) (he2 : ∀ f : Int → Int, cE G P f r2 w2 = aE G n2 f) {n : Int} (h1 : n = n1) (h2 : n1 = n2)
    (hfr : 1 ≤ R0.frames) (hlo : (st.map fun v => v.category).sum + (nativeFrameWords "java/lang/System" "arraycopy" 5 + 11) ≤ R0.locals) (hnl : nL = L.length) (hdg : decode cc pc = .ok (.invokestatic index, 3))
    (kk : Kz X G P (up V r2 w2 (V r1 w1)) uc us L (pc + 3) st) : Kz X G P V uc us L pc (.int (iI n) :: .int (iI 0) :: .ref (ad G r2 w2) :: .int (iI 0) :: .ref (ad G r1 w1) :: st) := by
  refine z_acopy E f0 f1 f2 f3 hv1 hv2 n1 hn1 n2 hn2 he1 he2 (by omega) (by omega) (by omega) (by omega) (by omega) hfr hlo hnl hdg (z_row hv2 he2 (fun r' w' hz => by rw [up_o hz, up_o hz]) (fun j h0 h1' => ?_) kk)
  rw [up_s, up_s]
  unfold cpI
  rw [if_pos (by omega)]
  congr 1
  omega
theorem all_0 {p : Int → Prop} : ∀ j : Int, 0 ≤ j → j < 0 → p j := fun _ h0 h1 => by omega
theorem all_s {k : Int} {p : Int → Prop} (h : ∀ j : Int, 0 ≤ j → j < k → p j) (hk : p k) : ∀ j : Int, 0 ≤ j → j < k + 1 → p j := by
  intro j h0 h1
  rcases Int.lt_or_le j k with q | q
  · exact h j h0 q
  · rw [show j = k by omega]; exact hk
theorem smb_t {m k : Int} {p : Int → Prop} (h : m = sm k (fun j => b2i (p j))) (hk : 0 ≤ k) (hp : p k) : m + 1 = sm (k + 1) (fun j => b2i (p j)) := by
  rw [sm_s hk, ← h, b2i_t hp]
theorem smb_f {m k : Int} {p : Int → Prop} (h : m = sm k (fun j => b2i (p j))) (hk : 0 ≤ k) (hp : ¬ p k) : m + 0 = sm (k + 1) (fun j => b2i (p j)) := by
  rw [sm_s hk, ← h, b2i_f hp]
theorem smb_f0 {m k : Int} {p : Int → Prop} (h : m = sm k (fun j => b2i (p j))) (hk : 0 ≤ k) (hp : ¬ p k) : m = sm (k + 1) (fun j => b2i (p j)) := by
  have := smb_f h hk hp; omega
/-- a set of 0 .. n-1 as bits -/
noncomputable def bits (n : Int) (p : Int → Prop) : Int := sm n (fun i => b2i (p i) * 2 ^ i.toNat)
theorem bits_0 {p : Int → Prop} : bits 0 p = 0 := sm_0 (by omega)
theorem bits_t {m k : Int} {p : Int → Prop} (h : m = bits k p) (hk : 0 ≤ k) (hp : p k) : m + 2 ^ k.toNat = bits (k + 1) p := by
  unfold bits; rw [sm_s hk, b2i_t hp, Int.one_mul, h]; rfl
theorem bits_f {m k : Int} {p : Int → Prop} (h : m = bits k p) (hk : 0 ≤ k) (hp : ¬ p k) : m = bits (k + 1) p := by
  unfold bits; rw [sm_s hk, b2i_f hp, Int.zero_mul, h, Int.add_zero]; rfl
theorem bits_bdN (p : Int → Prop) : ∀ n : Nat, 0 ≤ bits n p ∧ bits n p < 2 ^ n
  | 0 => by rw [show ((0 : Nat) : Int) = 0 from rfl, bits_0]; decide
  | n + 1 => by
    have ih := bits_bdN p n
    have e : (2 : Int) ^ (n + 1) = 2 ^ n + 2 ^ n := by rw [Int.pow_succ]; omega
    rw [e, show ((n + 1 : Nat) : Int) = (n : Int) + 1 from rfl]
    by_cases hp : p n
    · rw [← bits_t rfl (by omega) hp, Int.toNat_natCast]; omega
    · rw [← bits_f rfl (by omega) hp]; omega
theorem bits_bd (p : Int → Prop) {n : Int} (h : 0 ≤ n) : 0 ≤ bits n p ∧ bits n p < 2 ^ n.toNat := by
  have := bits_bdN p n.toNat
  rw [Int.toNat_of_nonneg h] at this
  exact this
theorem bits4_bd (p : Int → Prop) : 0 ≤ bits 4 p ∧ bits 4 p < 16 := bits_bd p (n := 4) (by decide)
theorem bits_congr {n : Int} {p q : Int → Prop} (h : ∀ j : Int, 0 ≤ j → j < n → (p j ↔ q j)) : bits n p = bits n q := sm_congr (fun j h0 h1 => by rw [b2i_iff (h j h0 h1)])
/-- eight numbers are the same -/
def eq8 (f g : Int → Int) (a b : Int) : Prop := ∀ i, 0 ≤ i → i < 8 → f (a + i) = g (b + i)
/-- the number, or NOT_FOUND -/
def fO (x : Int) : Int := if 0 ≤ x then x else -1000004
theorem fO_t {x : Int} (h : 0 ≤ x) : fO x = x := if_pos h
theorem fO_f {x : Int} (h : x < 0) : fO x = -1000004 := if_neg (by omega)
def nO (n : Int) (f : Int → Int) (k : Int) : Int := if 0 ≤ k ∧ k < n then f k else -1
theorem nO_t {n k : Int} {f : Int → Int} (h0 : 0 ≤ k) (h1 : k < n) : nO n f k = f k := if_pos ⟨h0, h1⟩
theorem nO_f {n k : Int} {f : Int → Int} (h : ¬ (0 ≤ k ∧ k < n)) : nO n f k = -1 := if_neg h
theorem smN_z {f : Int → Int} : ∀ n : Nat, (∀ j : Int, 0 ≤ j → j < n → f j = 0) → smN f n = 0
  | 0, _ => rfl
  | n + 1, h => by
    show smN f n + f n = 0
    rw [smN_z n (fun j h0 h1 => h j h0 (by omega)), h n (by omega) (by omega)]; rfl
theorem sm_z {n : Int} {f : Int → Int} (h : ∀ j : Int, 0 ≤ j → j < n → f j = 0) : sm n f = 0 := smN_z _ (fun j h0 h1 => h j h0 (by omega))
/-- the slot of a slot's parent -/
noncomputable def pS (n : Int) (num par : Int → Int) (k : Int) : Int := fnd n (fun j => num j = par k)
/-- steps down a chain until 0 or below -/
def itS (f : Int → Int) : Nat → Int → Int
  | 0, _ => 0
  | n + 1, x => if 0 < x then 1 + itS f n (f x) else 0
theorem itS_s {f : Int → Int} {n : Nat} {x : Int} (h : 0 < x) : itS f (n + 1) x = 1 + itS f n (f x) := if_pos h
theorem itS_0 {f : Int → Int} {n : Nat} {x : Int} (h : x ≤ 0) : itS f n x = 0 := by
  cases n with
  | zero => rfl
  | succ n => exact if_neg (by omega)
/-- the higher one goes down until both meet -/
def cmS (f : Int → Int) : Nat → Int → Int → Int
  | 0, a, _ => a
  | n + 1, a, b => if a = b then a else if b < a then cmS f n (f a) b else cmS f n a (f b)
theorem cmS_e {f : Int → Int} {n : Nat} {a b : Int} (h : a = b) : cmS f n a b = a := by
  cases n with
  | zero => rfl
  | succ n => exact if_pos h
theorem cmS_g {f : Int → Int} {n : Nat} {a b : Int} (h : b < a) : cmS f (n + 1) a b = cmS f n (f a) b := by
  show (if a = b then a else if b < a then cmS f n (f a) b else cmS f n a (f b)) = _
  rw [if_neg (by omega), if_pos h]
theorem cmS_l {f : Int → Int} {n : Nat} {a b : Int} (h : a ≤ b) (h2 : ¬ a = b) : cmS f (n + 1) a b = cmS f n a (f b) := by
  show (if a = b then a else if b < a then cmS f n (f a) b else cmS f n a (f b)) = _
  rw [if_neg h2, if_neg (by omega)]
theorem up_self {V : Vt} {r w : Nat} : up V r w (V r w) = V := by
  funext r' w'
  by_cases h : r' = r ∧ w' = w
  · obtain ⟨rfl, rfl⟩ := h; rw [up_s]
  · rw [up_o h]
theorem upup (V : Vt) (r w : Nat) (g g' : Int → Int) : up (up V r w g) r w g' = up V r w g' := by
  funext r' w'
  by_cases h : r' = r ∧ w' = w
  · obtain ⟨rfl, rfl⟩ := h; rw [up_s, up_s]
  · rw [up_o h, up_o h, up_o h]
theorem up_comm (V : Vt) (r r' w w' : Nat) (g g' : Int → Int) (h : ¬ (r = r' ∧ w = w')) : up (up V r w g) r' w' g' = up (up V r' w' g') r w g := by
  funext a b
  by_cases h1 : a = r ∧ b = w
  · obtain ⟨rfl, rfl⟩ := h1; rw [up_o h, up_s, up_s]
  · by_cases h2 : a = r' ∧ b = w'
    · obtain ⟨rfl, rfl⟩ := h2; rw [up_s, up_o h1, up_s]
    · rw [up_o h2, up_o h1, up_o h1, up_o h2]
/-- the parents, those below c whose parent is that of a slot already put over -/
def reP (par num : Int → Int) (slot c : Int) : Int → Int := fun j => if slot < j ∧ j < c ∧ par j = num slot then par slot else par j
theorem reP_0 {par num : Int → Int} {slot : Int} : reP par num slot (slot + 1) = par := by
  funext j; exact if_neg (by omega)
theorem reP_t {par num : Int → Int} {slot c : Int} (h : slot < c) (hp : par c = num slot) : updI (reP par num slot c) c (par slot) = reP par num slot (c + 1) := by
  funext j
  unfold updI reP
  by_cases hj : j = c
  · subst hj; rw [if_pos rfl, if_pos ⟨h, by omega, hp⟩]
  · rw [if_neg hj]
    by_cases h2 : slot < j ∧ j < c ∧ par j = num slot
    · rw [if_pos h2, if_pos ⟨h2.1, by omega, h2.2.2⟩]
    · rw [if_neg h2, if_neg (fun z => h2 ⟨z.1, by omega, z.2.2⟩)]
theorem reP_f {par num : Int → Int} {slot c : Int} (hp : ¬ par c = num slot) : reP par num slot c = reP par num slot (c + 1) := by
  funext j
  unfold reP
  by_cases hj : j = c
  · subst hj; rw [if_neg (by omega), if_neg (fun z => hp z.2.2)]
  · by_cases h2 : slot < j ∧ j < c ∧ par j = num slot
    · rw [if_pos h2, if_pos ⟨h2.1, by omega, h2.2.2⟩]
    · rw [if_neg h2, if_neg (fun z => h2 ⟨z.1, by omega, z.2.2⟩)]
/-- a row of an object's numbers may be called otherwise where the object does not hold them -/
theorem z_objrow {r w : Nat} (g : Int → Int) (he : cE G P g r w = cE G P (V r w) r w) (kk : Kz X G P (up V r w g) uc us L pc st) : Kz X G P V uc us L pc st := by
  obtain ⟨p, l, e, R, s, m, args, below, meth, c, Q, A⟩ := X
  intro H locs ls hP hS hL
  refine kk H locs ls ?_ hS hL
  have e : WL G P V = WL G P (up V r w g) := by
    unfold WL
    refine List.map_congr_left (fun q _ => ?_)
    by_cases h : q.1 = r ∧ q.2 = w
    · obtain ⟨h1, h2⟩ := h
      rw [h1, h2, up_s, he]
    · rw [up_o h]
  rw [← e]; exact hP
/-- the slot of a branch's state, or -1 -/
noncomputable def hdS (n : Int) (num hd : Int → Int) (b : Int) : Int := if 0 ≤ b ∧ b < 4 ∧ ¬ hd b = -1 then fnd n (fun k => num k = hd b) else -1
theorem hdS_t {n b : Int} {num hd : Int → Int} (h : 0 ≤ b ∧ b < 4 ∧ ¬ hd b = -1) : hdS n num hd b = fnd n (fun k => num k = hd b) := if_pos h
theorem hdS_f {n b : Int} {num hd : Int → Int} (h : ¬ (0 ≤ b ∧ b < 4 ∧ ¬ hd b = -1)) : hdS n num hd b = -1 := if_neg h
theorem hdS_c {n : Int} {num hd : Int → Int} (b : Int) (hn : 0 ≤ n) : hdS n num hd b = -1 ∨ (0 ≤ b ∧ b < 4 ∧ ¬ hd b = -1 ∧ 0 ≤ hdS n num hd b ∧ hdS n num hd b < n ∧ num (hdS n num hd b) = hd b) := by
  by_cases h : 0 ≤ b ∧ b < 4 ∧ ¬ hd b = -1
  · rw [hdS_t h]
    rcases fnd_c n (fun k => num k = hd b) with g | g
    · exact Or.inl g.1
    · exact Or.inr ⟨h.1, h.2.1, h.2.2, g.1, g.2.1, g.2.2.1⟩
  · exact Or.inl (hdS_f h)
/-- a cell of a state, by blocks' cells and places -/
def cA (C L : Int → Int) (s c : Int) : Int := C (L (s * 6 + c / 8) * 8 + c % 8)
theorem cA_R {V : Vt} (h : BV V) (w : Nat) (s c : Int) : inR (cA (V 2 w) (V 7 w) s c) := h.g 2 w _ rfl
/-- the first k of a row are new -/
def mix (f g : Int → Int) (k : Int) : Int → Int := fun j => if 0 ≤ j ∧ j < k then g j else f j
theorem mix_0 {f g : Int → Int} : mix f g 0 = f := by funext j; exact if_neg (by omega)
theorem mix_s {f g : Int → Int} {k : Int} (h : 0 ≤ k) : updI (mix f g k) k (g k) = mix f g (k + 1) := by
  funext j
  unfold updI mix
  by_cases hj : j = k
  · subst hj; rw [if_pos rfl, if_pos (by omega)]
  · rw [if_neg hj]
    by_cases h2 : 0 ≤ j ∧ j < k
    · rw [if_pos h2, if_pos (by omega)]
    · rw [if_neg h2, if_neg (by omega)]
theorem mix_e {f g : Int → Int} {k x : Int} (h : 0 ≤ k) (hx : x = g k) : updI (mix f g k) k x = mix f g (k + 1) := by rw [hx]; exact mix_s h
/-- a merge of one cell: what it becomes, and when it is a conflict -/
def mgX (was here there : Int) : Prop := ¬ there = was ∧ ¬ here = was ∧ ¬ here = there
noncomputable def mgC (was here there : Int) : Int := @ite _ (there = was ∨ mgX was here there) (Classical.propDecidable _) here there
theorem mgC_t {was here there : Int} (h : there = was ∨ (¬ there = was ∧ ¬ here = was ∧ ¬ here = there)) : mgC was here there = here := if_pos h
theorem mgC_f {was here there : Int} (h : ¬ (there = was ∨ (¬ there = was ∧ ¬ here = was ∧ ¬ here = there))) : mgC was here there = there := if_neg h
theorem mgC_R {was here there : Int} (h1 : inR here) (h2 : inR there) : inR (mgC was here there) := by
  by_cases h : there = was ∨ (¬ there = was ∧ ¬ here = was ∧ ¬ here = there)
  · rw [mgC_t h]; exact h1
  · rw [mgC_f h]; exact h2
theorem updI_id {f : Int → Int} {i : Int} : updI f i (f i) = f := by
  funext j; unfold updI; split
  · rename_i h; rw [h]
  · rfl
/-! a new state's blocks, place by place -/
def adSame (V : Vt) (w : Nat) (slot p : Int) : Prop := V 3 w (V 7 w (slot * 6 + p)) ≠ 0 ∧ eq8 (V 2 w) (V 9 w) (V 7 w (slot * 6 + p) * 8) (p * 8)
noncomputable def adF (V : Vt) (w : Nat) (p : Int) : Int := fnd 40 (fun b => V 3 w b ≠ 0 ∧ eq8 (V 2 w) (V 9 w) (b * 8) (p * 8))
def adPut (V : Vt) (w : Nat) (p b : Int) : Vt := up (up V 3 w (updI (V 3 w) b (V 3 w b + 1))) 7 w (updI (V 7 w) (V 4 w 3 * 6 + p) b)
def adTk (V : Vt) (w : Nat) : Vt := up V 1 w (updI (V 1 w) 3 (V 1 w 3 + 1))
def adMk (V : Vt) (w : Nat) (p b : Int) : Vt := up (up V 2 w (cpI (V 9 w) (V 2 w) (p * 8) (b * 8) 8)) 1 w (updI (V 1 w) 2 (V 1 w 2 + 1))
def adR (w : Nat) (slot : Int) (V : Vt) (p : Nat) (V' : Vt) : Prop :=
  (adSame V w slot (p : Int) ∧ V' = adPut V w (p : Int) (V 7 w (slot * 6 + (p : Int)))) ∨
  (¬ adSame V w slot (p : Int) ∧ V 0 w 4 = 1 ∧ 0 ≤ adF V w (p : Int) ∧ V' = adPut (adTk V w) w (p : Int) (adF V w (p : Int))) ∨
  (¬ adSame V w slot (p : Int) ∧ (¬ V 0 w 4 = 1 ∨ adF V w (p : Int) = -1) ∧ ∃ b : Int, 0 ≤ b ∧ b < 40 ∧ V 3 w b = 0 ∧ (∀ c, 0 ≤ c → c < b → V 3 w c ≠ 0) ∧ V' = adPut (adMk V w (p : Int) b) w (p : Int) b)
def adC (w : Nat) (slot : Int) (V : Vt) : Nat → Vt → Prop
  | 0, V' => V' = V
  | p + 1, V' => ∃ Vp, adC w slot V p Vp ∧ adR w slot Vp p V'
def adFail (V : Vt) (w : Nat) (slot : Int) : Prop := 16 ≤ V 4 w 3 ∨ ∃ (p : Nat) (Vp : Vt), p < 6 ∧ adC w slot V p Vp ∧ ¬ adSame Vp w slot (p : Int) ∧ (¬ Vp 0 w 4 = 1 ∨ adF Vp w (p : Int) = -1) ∧ ∀ b, 0 ≤ b → b < 40 → Vp 3 w b ≠ 0
def adEnd (V6 : Vt) (w : Nat) (branch slot : Int) : Vt := up (up (up (up V6 5 w (updI (V6 5 w) (V6 4 w 3) (V6 4 w 4))) 6 w (updI (V6 6 w) (V6 4 w 3) (V6 5 w slot))) 4 w (updI (updI (V6 4 w) 3 (V6 4 w 3 + 1)) 4 (V6 4 w 4 + 1))) 8 w (updI (V6 8 w) branch (V6 4 w 4))
/-- what a place's step leaves: a block was chosen, its uses and the place are put -/
theorem adR_k {w : Nat} {slot : Int} {V V' : Vt} {p : Nat} (h : adR w slot V p V') (hL : ∀ j, 0 ≤ V 7 w j ∧ V 7 w j < 40) : ∃ (b : Int) (V1 : Vt), 0 ≤ b ∧ b < 40 ∧ V' = adPut V1 w (p : Int) b ∧ V1 3 = V 3 ∧ V1 7 = V 7 ∧ V1 4 = V 4 ∧ (∀ r, ¬ r = 1 → ¬ r = 2 → V1 r = V r) ∧ (∀ r w', w' ≠ w → V1 r w' = V r w') := by
  rcases h with ⟨_, rfl⟩ | ⟨_, _, h0, rfl⟩ | ⟨_, _, b, h0, h1, _, _, rfl⟩
  · exact ⟨_, V, (hL _).1, (hL _).2, rfl, rfl, rfl, rfl, fun _ _ _ => rfl, fun _ _ _ => rfl⟩
  · refine ⟨_, adTk V w, h0, ?_, rfl, rfl, rfl, rfl, fun r h1 _ => up_r h1, fun r w' hw => ?_⟩
    · have := fnd_bd 40 (fun b => V 3 w b ≠ 0 ∧ eq8 (V 2 w) (V 9 w) (b * 8) ((p : Int) * 8)) (by omega)
      exact this.2
    · exact up_o (fun z => hw z.2)
  · refine ⟨b, adMk V w (p : Int) b, h0, h1, rfl, rfl, rfl, rfl, fun r h1 h2 => ?_, fun r w' hw => ?_⟩
    · unfold adMk; rw [up_r h1, up_r h2]
    · unfold adMk; rw [up_o (fun z => hw z.2), up_o (fun z => hw z.2)]
theorem adR_fr {w : Nat} {slot : Int} {V V' : Vt} {p : Nat} (h : adR w slot V p V') (r : Nat) (z1 : ¬ r = 1) (z2 : ¬ r = 2) (z3 : ¬ r = 3) (z7 : ¬ r = 7) : V' r w = V r w := by
  rcases h with ⟨_, rfl⟩ | ⟨_, _, h0, rfl⟩ | ⟨_, _, b, h0, h1, _, _, rfl⟩
  · unfold adPut; rw [up_r z7, up_r z3]
  · unfold adPut adTk; rw [up_r z7, up_r z3, up_r z1]
  · unfold adPut adMk; rw [up_r z7, up_r z3, up_r z1, up_r z2]
theorem adR_L {w : Nat} {slot : Int} {V V' : Vt} {p : Nat} (h : adR w slot V p V') (hL : ∀ j, 0 ≤ V 7 w j ∧ V 7 w j < 40) : ∀ j, 0 ≤ V' 7 w j ∧ V' 7 w j < 40 := by
  obtain ⟨b, V1, h0, h1, rfl, e3, e7, e4, -, -⟩ := adR_k h hL
  intro j
  unfold adPut
  rw [up_s]
  unfold updI
  split
  · exact ⟨h0, h1⟩
  · rw [e7]; exact hL j
theorem adR_U {w : Nat} {slot m : Int} {V V' : Vt} {p : Nat} (h : adR w slot V p V') (hL : ∀ j, 0 ≤ V 7 w j ∧ V 7 w j < 40) (hU : ∀ j, 0 ≤ V 3 w j ∧ V 3 w j ≤ m) : ∀ j, 0 ≤ V' 3 w j ∧ V' 3 w j ≤ m + 1 := by
  obtain ⟨b, V1, h0, h1, rfl, e3, e7, e4, -, -⟩ := adR_k h hL
  intro j
  unfold adPut
  rw [up_r (show (3 : Nat) ≠ 7 by decide), up_s, e3]
  have h1 := hU j
  have h2 := hU b
  unfold updI
  split <;> omega
/-- one world's rows become another's -/
def cpB (V : Vt) (w u : Nat) : Vt := up (up (up V 2 w (V 2 u)) 3 w (V 3 u)) 1 w (V 1 u)
def cpS (V : Vt) (w u : Nat) : Vt := up (up (up (up V 5 w (V 5 u)) 6 w (V 6 u)) 7 w (V 7 u)) 4 w (V 4 u)
def cpW (V : Vt) (w u : Nat) : Vt := up (up (cpS (cpB V w u) w u) 8 w (V 8 u)) 0 w (V 0 u)
def flI (f : Int → Int) (a k v : Int) : Int → Int := fun j => if a ≤ j ∧ j < a + k then v else f j
theorem flI_0 {f : Int → Int} {a v : Int} : flI f a 0 v = f := by funext j; exact if_neg (by omega)
theorem flI_s {f : Int → Int} {a k v : Int} (h : 0 ≤ k) : updI (flI f a k v) (a + k) v = flI f a (k + 1) v := by
  funext j
  unfold updI flI
  by_cases hj : j = a + k
  · rw [if_pos hj, if_pos (by omega)]
  · rw [if_neg hj]
    by_cases h2 : a ≤ j ∧ j < a + k
    · rw [if_pos h2, if_pos (by omega)]
    · rw [if_neg h2, if_neg (by omega)]
theorem cpI_0 {f g : Int → Int} {sp dp : Int} : cpI f g sp dp 0 = g := by funext j; exact if_neg (by omega)
theorem cpI_s {f g : Int → Int} {sp dp k : Int} (h : 0 ≤ k) : updI (cpI f g sp dp k) (dp + k) (f (sp + k)) = cpI f g sp dp (k + 1) := by
  funext j
  unfold updI cpI
  by_cases hj : j = dp + k
  · rw [if_pos hj, if_pos (by omega), hj]; congr 1; omega
  · rw [if_neg hj]
    by_cases h2 : dp ≤ j ∧ j < dp + k
    · rw [if_pos h2, if_pos (by omega)]
    · rw [if_neg h2, if_neg (by omega)]
/-- what a write's end is: no room, or the new state -/
def adO (V : Vt) (w : Nat) (branch slot r : Int) (V' : Vt) : Prop := (r = -1000003 ∧ adFail V w slot) ∨ (V 4 w 3 < 16 ∧ r = V 4 w 4 ∧ ∃ V6, adC w slot V 6 V6 ∧ V' = adEnd V6 w branch slot)
/-- a slot is taken out of the states -/
def rmV (V : Vt) (w : Nat) (slot : Int) : Vt := up (up (up (up V 5 w (cpI (V 5 w) (V 5 w) (slot + 1) slot (V 4 w 3 - slot - 1))) 6 w (cpI (reP (V 6 w) (V 5 w) slot (V 4 w 3)) (reP (V 6 w) (V 5 w) slot (V 4 w 3)) (slot + 1) slot (V 4 w 3 - slot - 1))) 7 w (cpI (V 7 w) (V 7 w) ((slot + 1) * 6) (slot * 6) ((V 4 w 3 - slot - 1) * 6))) 4 w (updI (V 4 w) 3 (V 4 w 3 - 1))
theorem dc_0 {U L : Int → Int} {a : Int} : (fun b => U b - sm 0 (fun p => b2i (L (a + p) = b))) = U := by
  funext b; rw [sm_0 (by omega)]; omega
theorem dc_s {U L : Int → Int} {a k : Int} (h : 0 ≤ k) : updI (fun b => U b - sm k (fun p => b2i (L (a + p) = b))) (L (a + k)) ((fun b => U b - sm k (fun p => b2i (L (a + p) = b))) (L (a + k)) + (-1)) = (fun b => U b - sm (k + 1) (fun p => b2i (L (a + p) = b))) := by
  funext b
  unfold updI
  dsimp only
  rw [sm_s h]
  by_cases hb : b = L (a + k)
  · subst hb; rw [if_pos rfl, b2i_t rfl]; omega
  · rw [if_neg hb, b2i_f (fun z => hb z.symm)]; omega
theorem updI_b {f : Int → Int} {i x : Int} (j : Int) : updI f i x j = f j ∨ updI f i x j = x := by
  unfold updI; split
  · exact Or.inr rfl
  · exact Or.inl rfl
/-! equal blocks shared, place by place -/
noncomputable def shF (V : Vt) (w : Nat) (b : Int) : Int := fnd 40 (fun a => V 3 w a ≠ 0 ∧ eq8 (V 2 w) (V 2 w) (a * 8) (b * 8))
def shR (w : Nat) (V : Vt) (i : Nat) (V' : Vt) : Prop :=
  (0 ≤ shF V w (V 7 w (i : Int)) ∧ shF V w (V 7 w (i : Int)) < V 7 w (i : Int) ∧ V' = up (up V 3 w (updI (updI (V 3 w) (V 7 w (i : Int)) (V 3 w (V 7 w (i : Int)) + (-1))) (shF V w (V 7 w (i : Int))) (updI (V 3 w) (V 7 w (i : Int)) (V 3 w (V 7 w (i : Int)) + (-1)) (shF V w (V 7 w (i : Int))) + 1))) 7 w (updI (V 7 w) (i : Int) (shF V w (V 7 w (i : Int))))) ∨
  (¬ (0 ≤ shF V w (V 7 w (i : Int)) ∧ shF V w (V 7 w (i : Int)) < V 7 w (i : Int)) ∧ V' = V)
def shC (w : Nat) (V : Vt) : Nat → Vt → Prop
  | 0, V' => V' = V
  | i + 1, V' => ∃ Vp, shC w V i Vp ∧ shR w Vp i V'
theorem shR_fr {w : Nat} {V V' : Vt} {i : Nat} (h : shR w V i V') (r : Nat) (z3 : ¬ r = 3) (z7 : ¬ r = 7) : V' r w = V r w := by
  rcases h with ⟨_, _, rfl⟩ | ⟨_, rfl⟩
  · rw [up_r z7, up_r z3]
  · rfl
theorem shR_L {w : Nat} {V V' : Vt} {i : Nat} (h : shR w V i V') (hL : ∀ j, 0 ≤ V 7 w j ∧ V 7 w j < 40) : ∀ j, 0 ≤ V' 7 w j ∧ V' 7 w j < 40 := by
  rcases h with ⟨h0, h1, rfl⟩ | ⟨_, rfl⟩
  · intro j
    rw [up_s]
    have z := hL (i : Int)
    have z2 := hL j
    rcases updI_b (f := V 7 w) (i := (i : Int)) (x := shF V w (V 7 w (i : Int))) j with q | q <;> rw [q] <;> omega
  · exact hL
theorem shR_U {w : Nat} {V V' : Vt} {i : Nat} {a b : Int} (h : shR w V i V') (hU : ∀ j, a ≤ V 3 w j ∧ V 3 w j ≤ b) : ∀ j, a - 1 ≤ V' 3 w j ∧ V' 3 w j ≤ b + 1 := by
  rcases h with ⟨h0, h1, rfl⟩ | ⟨_, rfl⟩
  · intro j
    rw [up_r (show (3 : Nat) ≠ 7 by decide), up_s]
    have z := hU (V 7 w (i : Int))
    have z2 := hU j
    have z3 := hU (shF V w (V 7 w (i : Int)))
    rcases updI_b (f := updI (V 3 w) (V 7 w (i : Int)) (V 3 w (V 7 w (i : Int)) + (-1))) (i := shF V w (V 7 w (i : Int))) (x := updI (V 3 w) (V 7 w (i : Int)) (V 3 w (V 7 w (i : Int)) + (-1)) (shF V w (V 7 w (i : Int))) + 1) j with q | q <;> rw [q]
    · rcases updI_b (f := V 3 w) (i := V 7 w (i : Int)) (x := V 3 w (V 7 w (i : Int)) + (-1)) j with q | q <;> rw [q] <;> omega
    · rcases updI_b (f := V 3 w) (i := V 7 w (i : Int)) (x := V 3 w (V 7 w (i : Int)) + (-1)) (shF V w (V 7 w (i : Int))) with q | q <;> rw [q] <;> omega
  · intro j; have := hU j; omega
/-! what a change of a world answers and leaves -/
def fillQ (V : Vt) (w : Nat) (branch : Int) (cell : Int) (many : Int) (value : Int) (r : Int) (V' : Vt) : Prop := ((r = -1000001 ∧ ¬ (0 ≤ hdS (V 4 w 3) (V 5 w) (V 8 w) branch ∧ (0 ≤ cell ∧ cell < 48 ∧ 1 ≤ many ∧ many ≤ 48 - cell) ∧ 0 ≤ value ∧ value < 1000)) ∨ ((0 ≤ hdS (V 4 w 3) (V 5 w) (V 8 w) branch ∧ (0 ≤ cell ∧ cell < 48 ∧ 1 ≤ many ∧ many ≤ 48 - cell) ∧ 0 ≤ value ∧ value < 1000) ∧ adO (up V 9 w (flI (fun c => cA (V 2 w) (V 7 w) (hdS (V 4 w 3) (V 5 w) (V 8 w) branch) c) cell many value)) w branch (hdS (V 4 w 3) (V 5 w) (V 8 w) branch) r V'))
def copyQ (V : Vt) (w : Nat) (branch : Int) (state : Int) (src : Int) (dst : Int) (many : Int) (r : Int) (V' : Vt) : Prop := ((r = -1000001 ∧ ¬ (0 ≤ hdS (V 4 w 3) (V 5 w) (V 8 w) branch ∧ 0 ≤ fnd (V 4 w 3) (fun k => V 5 w k = state) ∧ (0 ≤ src ∧ src < 48 ∧ 1 ≤ many ∧ many ≤ 48 - src) ∧ (0 ≤ dst ∧ dst < 48 ∧ 1 ≤ many ∧ many ≤ 48 - dst))) ∨ ((0 ≤ hdS (V 4 w 3) (V 5 w) (V 8 w) branch ∧ 0 ≤ fnd (V 4 w 3) (fun k => V 5 w k = state) ∧ (0 ≤ src ∧ src < 48 ∧ 1 ≤ many ∧ many ≤ 48 - src) ∧ (0 ≤ dst ∧ dst < 48 ∧ 1 ≤ many ∧ many ≤ 48 - dst)) ∧ adO (up V 9 w (cpI (fun c => cA (V 2 w) (V 7 w) (fnd (V 4 w 3) (fun k => V 5 w k = state)) c) (fun c => cA (V 2 w) (V 7 w) (hdS (V 4 w 3) (V 5 w) (V 8 w) branch) c) src dst many)) w branch (hdS (V 4 w 3) (V 5 w) (V 8 w) branch) r V'))
def mergeQ (V : Vt) (w : Nat) (branch : Int) (state : Int) (r : Int) (V' : Vt) : Prop := ((r = -1000001 ∧ ¬ (0 ≤ (hdS (V 4 w 3) (V 5 w) (V 8 w) branch) ∧ 0 ≤ (fnd (V 4 w 3) (fun k => V 5 w k = state)))) ∨ ((0 ≤ (hdS (V 4 w 3) (V 5 w) (V 8 w) branch) ∧ 0 ≤ (fnd (V 4 w 3) (fun k => V 5 w k = state))) ∧ ∃ (ra : Int) (Va : Vt), adO (up V 9 w (fun c => mgC (cA (V 2 w) (V 7 w) (cmS (pS (V 4 w 3) (V 5 w) (V 6 w)) 32 (hdS (V 4 w 3) (V 5 w) (V 8 w) branch) (fnd (V 4 w 3) (fun k => V 5 w k = state))) c) (cA (V 2 w) (V 7 w) (hdS (V 4 w 3) (V 5 w) (V 8 w) branch) c) (cA (V 2 w) (V 7 w) (fnd (V 4 w 3) (fun k => V 5 w k = state)) c))) w branch (hdS (V 4 w 3) (V 5 w) (V 8 w) branch) ra Va ∧ ((ra < 0 ∧ r = ra) ∨ (0 ≤ ra ∧ r = sm 48 (fun c => b2i (mgX (cA (V 2 w) (V 7 w) (cmS (pS (V 4 w 3) (V 5 w) (V 6 w)) 32 (hdS (V 4 w 3) (V 5 w) (V 8 w) branch) (fnd (V 4 w 3) (fun k => V 5 w k = state))) c) (cA (V 2 w) (V 7 w) (hdS (V 4 w 3) (V 5 w) (V 8 w) branch) c) (cA (V 2 w) (V 7 w) (fnd (V 4 w 3) (fun k => V 5 w k = state)) c))) ∧ V' = up Va 0 w (updI (Va 0 w) 5 (Va 0 w 5 + r))))))
def addBQ (V : Vt) (w : Nat) (state : Int) (r : Int) (V' : Vt) : Prop := ((r = -1000001 ∧ (fnd (V 4 w 3) (fun k => V 5 w k = state)) = -1 ∧ V' = V) ∨ (0 ≤ (fnd (V 4 w 3) (fun k => V 5 w k = state)) ∧ fnd 4 (fun b => V 8 w b = -1) = -1 ∧ r = -1000003 ∧ V' = V) ∨ (0 ≤ (fnd (V 4 w 3) (fun k => V 5 w k = state)) ∧ 0 ≤ fnd 4 (fun b => V 8 w b = -1) ∧ r = fnd 4 (fun b => V 8 w b = -1) ∧ V' = up V 8 w (updI (V 8 w) r state)))
def dropQ (V : Vt) (w : Nat) (b : Int) (r : Int) (V' : Vt) : Prop := ((r = -1000001 ∧ ¬ (0 ≤ b ∧ b < 4 ∧ ¬ V 8 w b = -1) ∧ V' = V) ∨ ((0 ≤ b ∧ b < 4 ∧ ¬ V 8 w b = -1) ∧ sm 4 (fun b => b2i (¬ V 8 w b = -1)) = 1 ∧ r = -1000002 ∧ V' = V) ∨ ((0 ≤ b ∧ b < 4 ∧ ¬ V 8 w b = -1) ∧ ¬ sm 4 (fun b => b2i (¬ V 8 w b = -1)) = 1 ∧ V' = up V 8 w (updI (V 8 w) b (-1)) ∧ r = sm 4 (fun b => b2i (¬ V' 8 w b = -1))))
def backQ (V : Vt) (w : Nat) (branch : Int) (r : Int) (V' : Vt) : Prop := ((r = -1000001 ∧ (hdS (V 4 w 3) (V 5 w) (V 8 w) branch) = -1 ∧ V' = V) ∨ ((hdS (V 4 w 3) (V 5 w) (V 8 w) branch) = 0 ∧ r = -1000002 ∧ V' = V) ∨ (0 < (hdS (V 4 w 3) (V 5 w) (V 8 w) branch) ∧ r = V 6 w (hdS (V 4 w 3) (V 5 w) (V 8 w) branch) ∧ V' = up V 8 w (updI (V 8 w) branch (V 6 w (hdS (V 4 w 3) (V 5 w) (V 8 w) branch)))))
def forgetQ (V : Vt) (w : Nat) (state : Int) (r : Int) (V' : Vt) : Prop := ((r = -1000001 ∧ (fnd (V 4 w 3) (fun k => V 5 w k = state)) = -1 ∧ V' = V) ∨ (0 ≤ (fnd (V 4 w 3) (fun k => V 5 w k = state)) ∧ ¬ (0 < (fnd (V 4 w 3) (fun k => V 5 w k = state)) ∧ bits 4 (fun b => V 8 w b = V 5 w (fnd (V 4 w 3) (fun k => V 5 w k = state))) = 0) ∧ r = -1000002 ∧ V' = V) ∨ ((0 < (fnd (V 4 w 3) (fun k => V 5 w k = state)) ∧ bits 4 (fun b => V 8 w b = V 5 w (fnd (V 4 w 3) (fun k => V 5 w k = state))) = 0) ∧ V' = rmV (up V 3 w (fun b => V 3 w b - sm 6 (fun p => b2i (V 7 w ((fnd (V 4 w 3) (fun k => V 5 w k = state)) * 6 + p) = b)))) w (fnd (V 4 w 3) (fun k => V 5 w k = state)) ∧ r = sm 40 (fun b => b2i (0 < V 3 w b)) - sm 40 (fun b => b2i (0 < V' 3 w b))))
def shareQ (V : Vt) (w : Nat) (r : Int) (V' : Vt) : Prop := shC w V (V 4 w 3 * 6).toNat V' ∧ r = sm 40 (fun b => b2i (0 < V 3 w b)) - sm 40 (fun b => b2i (0 < V' 3 w b))
def setQ (V : Vt) (w : Nat) (what : Int) (value : Int) (r : Int) (V' : Vt) : Prop := ((r = -1000001 ∧ ¬ (what = 0 ∧ 0 ≤ value ∧ value < 2) ∧ V' = V) ∨ ((what = 0 ∧ 0 ≤ value ∧ value < 2) ∧ r = V 0 w 4 ∧ V' = up V 0 w (updI (V 0 w) 4 value)))
theorem cpW_s {V : Vt} {w u r : Nat} (hr : r < 9) : cpW V w u r w = V r u := by
  unfold cpW cpS cpB
  rcases (show r = 0 ∨ r = 1 ∨ r = 2 ∨ r = 3 ∨ r = 4 ∨ r = 5 ∨ r = 6 ∨ r = 7 ∨ r = 8 by omega) with rfl | rfl | rfl | rfl | rfl | rfl | rfl | rfl | rfl <;> simp [up]
theorem cpW_o {V : Vt} {w u r w' : Nat} (h : w' ≠ w) (hu : u ≠ w) : cpW V w u r w' = V r w' := by
  have z : ∀ a, ¬ (a = r ∧ w' = w) := fun a q => h q.2
  unfold cpW cpS cpB
  rw [up_o (fun q => h q.2), up_o (fun q => h q.2), up_o (fun q => h q.2), up_o (fun q => h q.2), up_o (fun q => h q.2), up_o (fun q => h q.2), up_o (fun q => h q.2), up_o (fun q => h q.2), up_o (fun q => h q.2)]
theorem cpW_9 {V : Vt} {w u r w' : Nat} (hr : 9 ≤ r) : cpW V w u r w' = V r w' := by
  unfold cpW cpS cpB
  rw [up_r (by omega), up_r (by omega), up_r (by omega), up_r (by omega), up_r (by omega), up_r (by omega), up_r (by omega), up_r (by omega), up_r (by omega)]
theorem nO_R {V : Vt} (h : BV V) (w : Nat) (n k : Int) : inR (nO n (V 5 w) k) := by
  unfold nO; split
  · exact h.g 5 w k rfl
  · omega
/-- down the parents to the first state with a property: its number -/
noncomputable def bfF (f num : Int → Int) (d : Int → Prop) : Nat → Int → Int
  | 0, _ => -1000004
  | n + 1, s => if s < 0 then -1000004 else @ite _ (d s) (Classical.propDecidable _) (num s) (bfF f num d n (f s))
theorem bfF_n {f num : Int → Int} {d : Int → Prop} {n : Nat} {s : Int} (h : s < 0) : bfF f num d n s = -1000004 := by
  cases n with
  | zero => rfl
  | succ n => exact if_pos h
theorem bfF_y {f num : Int → Int} {d : Int → Prop} {n : Nat} {s : Int} (h : 0 ≤ s) (hd : d s) : bfF f num d (n + 1) s = num s := by
  show (if s < 0 then -1000004 else _) = _
  rw [if_neg (by omega), if_pos hd]
theorem bfF_s {f num : Int → Int} {d : Int → Prop} {n : Nat} {s : Int} (h : 0 ≤ s) (hd : ¬ d s) : bfF f num d (n + 1) s = bfF f num d n (f s) := by
  show (if s < 0 then -1000004 else _) = _
  rw [if_neg (by omega), if_neg hd]
/-- the one that frees most, and how much -/
def hvR (f num : Int → Int) : Nat → Int × Int
  | 0 => (-1, -1)
  | k + 1 => if (hvR f num k).2 < f k then (num k, f k) else hvR f num k
theorem hvR_t {f num : Int → Int} {k : Nat} (h : (hvR f num k).2 < f k) : hvR f num (k + 1) = (num k, f k) := if_pos h
theorem hvR_f {f num : Int → Int} {k : Nat} (h : f k ≤ (hvR f num k).2) : hvR f num (k + 1) = hvR f num k := if_neg (by omega)
theorem hvS_t {f num : Int → Int} {k bst mst x : Int} (_hb : bst = (hvR f num k.toNat).1) (hm : mst = (hvR f num k.toNat).2) (hk : 0 ≤ k) (hx : x = f k) (h : mst < x) : num k = (hvR f num (k + 1).toNat).1 ∧ x = (hvR f num (k + 1).toNat).2 := by
  have e : ((k.toNat : Nat) : Int) = k := Int.toNat_of_nonneg hk
  rw [show (k + 1).toNat = k.toNat + 1 by omega, hvR_t (by rw [e, ← hm, ← hx]; exact h), e]
  exact ⟨rfl, hx⟩
theorem hvS_f {f num : Int → Int} {k bst mst x : Int} (hb : bst = (hvR f num k.toNat).1) (hm : mst = (hvR f num k.toNat).2) (hk : 0 ≤ k) (hx : x = f k) (h : x ≤ mst) : bst = (hvR f num (k + 1).toNat).1 ∧ mst = (hvR f num (k + 1).toNat).2 := by
  have e : ((k.toNat : Nat) : Int) = k := Int.toNat_of_nonneg hk
  rw [show (k + 1).toNat = k.toNat + 1 by omega, hvR_f (by rw [e, ← hm, ← hx]; exact h)]
  exact ⟨hb, hm⟩
/-- how many blocks forgetting the state of a slot frees, or -1 -/
noncomputable def fgF (V : Vt) (w : Nat) (s : Int) : Int := @ite _ (0 < s ∧ bits 4 (fun b => V 8 w b = V 5 w s) = 0) (Classical.propDecidable _) (sm 6 (fun q => b2i (V 3 w (V 7 w (s * 6 + q)) = sm 6 (fun p => b2i (V 7 w (s * 6 + p) = V 7 w (s * 6 + q))) ∧ ∀ e, 0 ≤ e → e < q → ¬ V 7 w (s * 6 + e) = V 7 w (s * 6 + q)))) (-1)
theorem fgF_t {V : Vt} {w : Nat} {s : Int} (h : 0 < s ∧ bits 4 (fun b => V 8 w b = V 5 w s) = 0) : fgF V w s = sm 6 (fun q => b2i (V 3 w (V 7 w (s * 6 + q)) = sm 6 (fun p => b2i (V 7 w (s * 6 + p) = V 7 w (s * 6 + q))) ∧ ∀ e, 0 ≤ e → e < q → ¬ V 7 w (s * 6 + e) = V 7 w (s * 6 + q))) := if_pos h
theorem fgF_f {V : Vt} {w : Nat} {s : Int} (h : ¬ (0 < s ∧ bits 4 (fun b => V 8 w b = V 5 w s) = 0)) : fgF V w s = -1 := if_neg h
/-- a trial is kept: which worlds are named, and the history's numbers -/
def kpI (V : Vt) : Int := (V 11 0 1 + V 11 0 2) % 4
def kpP (P : Nat → Nat) (V : Vt) : Nat → Nat := fun j => if j = 0 then P 1 else if j = 1 then P (2 + (kpI V).toNat) else if j = 2 + (kpI V).toNat then P 0 else P j
def kpV (V : Vt) : Vt := if V 11 0 2 < 4 then up V 11 0 (updI (V 11 0) 2 (V 11 0 2 + 1)) else up V 11 0 (updI (V 11 0) 1 ((V 11 0 1 + 1) % 4))
def unI (V : Vt) : Int := (V 11 0 1 + (V 11 0 2 - 1)) % 4
def unP (P : Nat → Nat) (V : Vt) : Nat → Nat := fun j => if j = 0 then P (2 + (unI V).toNat) else if j = 2 + (unI V).toNat then P 0 else P j
def unV (V : Vt) : Vt := up V 11 0 (updI (V 11 0) 2 (V 11 0 2 - 1))
theorem kp_eq {P P2 P3 P4 : Nat → Nat} {V : Vt} {r : Int} (h2 : P2 = fun j => if j = 0 then P 1 else P j) (h3 : P3 = fun j => if j = 2 + (kpI V).toNat then P 0 else P2 j) (hr : r = ((P2 (2 + (kpI V).toNat) : Nat) : Int)) (h4 : P4 = fun j => if j = 1 then r.toNat else P3 j) : P4 = kpP P V := by
  subst h2 h3 h4
  funext j
  unfold kpP
  dsimp only at hr ⊢
  rw [if_neg (by omega)] at hr
  by_cases h1 : j = 1
  · subst h1; rw [if_pos rfl, if_neg (by omega), if_pos rfl, hr, Int.toNat_natCast]
  · rw [if_neg h1]
    by_cases h0 : j = 0
    · subst h0; rw [if_neg (by omega), if_pos rfl, if_pos rfl]
    · rw [if_neg h0, if_neg h1, if_neg h0]
theorem un_eq {P P2 P3 : Nat → Nat} {V : Vt} {r : Int} (h2 : P2 = fun j => if j = 2 + ((V 11 0 1 + (V 11 0 2 - 1)) % 4).toNat then P 0 else P j) (hr : r = ((P (2 + ((V 11 0 1 + (V 11 0 2 - 1)) % 4).toNat) : Nat) : Int)) (h3 : P3 = fun j => if j = 0 then r.toNat else P2 j) : P3 = unP P V := by
  subst h2 h3
  funext j
  unfold unP unI
  dsimp only
  by_cases h0 : j = 0
  · subst h0; rw [if_pos rfl, if_pos rfl, hr, Int.toNat_natCast]
  · rw [if_neg h0, if_neg h0]
def KP (r : Int) (P : Nat → Nat) (V : Vt) (P' : Nat → Nat) (V' : Vt) : Prop := (r < 0 ∧ P' = P ∧ V' = V) ∨ (0 ≤ r ∧ P' = kpP P V ∧ V' = kpV V)
/-! what a change of a world leaves alone -/
def FR (w : Nat) (V V' : Vt) : Prop := ∀ r w', ¬ (r < 10 ∧ w' = w) → V' r w' = V r w'
theorem FR.rf {w : Nat} {V : Vt} : FR w V V := fun _ _ _ => rfl
theorem FR.tr {w : Nat} {V V' V'' : Vt} (h : FR w V V') (h' : FR w V' V'') : FR w V V'' := fun r w' z => (h' r w' z).trans (h r w' z)
theorem FR.u {w r : Nat} {V V' : Vt} {g : Int → Int} (h : FR w V V') (hr : r < 10) : FR w V (up V' r w g) := fun r' w' z => by
  rw [up_o (fun q => z ⟨by omega, q.2⟩)]; exact h r' w' z
theorem adR_fR {w : Nat} {slot : Int} {V V' : Vt} {p : Nat} (h : adR w slot V p V') : FR w V V' := by
  rcases h with ⟨_, rfl⟩ | ⟨_, _, h0, rfl⟩ | ⟨_, _, b, h0, h1, _, _, rfl⟩
  · exact (FR.rf.u (by decide)).u (by decide)
  · exact ((FR.rf.u (by decide)).u (by decide)).u (by decide)
  · exact (((FR.rf.u (by decide)).u (by decide)).u (by decide)).u (by decide)
theorem adC_fR {w : Nat} {slot : Int} {V : Vt} : ∀ {p : Nat} {V' : Vt}, adC w slot V p V' → FR w V V'
  | 0, _, h => by rw [show _ = V from h]; exact FR.rf
  | _ + 1, _, ⟨_, h, h'⟩ => (adC_fR h).tr (adR_fR h')
theorem adO_fR {V V' : Vt} {w : Nat} {branch slot r : Int} (h : adO V w branch slot r V') (hr : 0 ≤ r) : FR w V V' := by
  rcases h with ⟨h, _⟩ | ⟨_, _, V6, h6, rfl⟩
  · omega
  · exact (adC_fR h6).tr ((((FR.rf.u (by decide)).u (by decide)).u (by decide)).u (by decide))
theorem shR_fR {w : Nat} {V V' : Vt} {i : Nat} (h : shR w V i V') : FR w V V' := by
  rcases h with ⟨_, _, rfl⟩ | ⟨_, rfl⟩
  · exact (FR.rf.u (by decide)).u (by decide)
  · exact FR.rf
theorem shC_fR {w : Nat} {V : Vt} : ∀ {p : Nat} {V' : Vt}, shC w V p V' → FR w V V'
  | 0, _, h => by rw [show _ = V from h]; exact FR.rf
  | _ + 1, _, ⟨_, h, h'⟩ => (shC_fR h).tr (shR_fR h')
theorem addBQ_fr {V : Vt} {w : Nat} {a r : Int} {V' : Vt} (h : addBQ V w a r V') : FR w V V' := by
  rcases h with ⟨_, _, rfl⟩ | ⟨_, _, _, rfl⟩ | ⟨_, _, _, rfl⟩
  · exact FR.rf
  · exact FR.rf
  · exact FR.rf.u (by decide)
theorem dropQ_fr {V : Vt} {w : Nat} {a r : Int} {V' : Vt} (h : dropQ V w a r V') : FR w V V' := by
  rcases h with ⟨_, _, rfl⟩ | ⟨_, _, _, rfl⟩ | ⟨_, _, rfl, _⟩
  · exact FR.rf
  · exact FR.rf
  · exact FR.rf.u (by decide)
theorem backQ_fr {V : Vt} {w : Nat} {a r : Int} {V' : Vt} (h : backQ V w a r V') : FR w V V' := by
  rcases h with ⟨_, _, rfl⟩ | ⟨_, _, rfl⟩ | ⟨_, _, rfl⟩
  · exact FR.rf
  · exact FR.rf
  · exact FR.rf.u (by decide)
theorem forgetQ_fr {V : Vt} {w : Nat} {a r : Int} {V' : Vt} (h : forgetQ V w a r V') : FR w V V' := by
  rcases h with ⟨_, _, rfl⟩ | ⟨_, _, _, rfl⟩ | ⟨_, rfl, _⟩
  · exact FR.rf
  · exact FR.rf
  · exact ((((FR.rf.u (by decide)).u (by decide)).u (by decide)).u (by decide)).u (by decide)
theorem shareQ_fr {V : Vt} {w : Nat} {r : Int} {V' : Vt} (h : shareQ V w r V') : FR w V V' := shC_fR h.1
theorem setQ_fr {V : Vt} {w : Nat} {a b r : Int} {V' : Vt} (h : setQ V w a b r V') : FR w V V' := by
  rcases h with ⟨_, _, rfl⟩ | ⟨_, _, rfl⟩
  · exact FR.rf
  · exact FR.rf.u (by decide)
/-! the reference's numbers: of a slot, of a block, flags, heads -/
def mo (s : Int → Int) (k j : Int) : Int := s (10 + 8 * k + j)
def mb (s : Int → Int) (b c : Int) : Int := s (138 + 9 * b + 1 + c)
def mf (s : Int → Int) (b : Int) : Int := s (138 + 9 * b)
def mh (s : Int → Int) (b : Int) : Int := s (6 + b)
def mc (s : Int → Int) (k c : Int) : Int := mb s (mo s k (2 + c / 8)) (c % 8)
noncomputable def mS (s : Int → Int) (x : Int) : Int := fnd (s 0) (fun k => mo s k 0 = x)
noncomputable def pwM (s : Int → Int) (b : Int) : Int := sm (s 0) (fun k => sm 6 (fun p => b2i (mo s k (2 + p) = b)))
theorem fO_c (n : Int) (p : Int → Prop) : (fO (fnd n p) = -1000004 ∧ fnd n p = -1 ∧ ∀ j, 0 ≤ j → j < n → ¬ p j) ∨ (fO (fnd n p) = fnd n p ∧ 0 ≤ fnd n p ∧ fnd n p < n ∧ p (fnd n p)) := by
  rcases fnd_c n p with h | h
  · exact Or.inl ⟨by rw [h.1]; rfl, h.1, h.2⟩
  · exact Or.inr ⟨fO_t h.1, h.1, h.2.1, h.2.2.1⟩
theorem ba_1 {lo k a : Int} {p : Int → Prop} (h : a = b2i (∀ j, lo ≤ j → j < k → p j)) (ha : ¬ a = 0) (hp : p k) : 1 = b2i (∀ j, lo ≤ j → j < k + 1 → p j) := by
  have hq : ∀ j, lo ≤ j → j < k → p j := Classical.byContradiction fun z => ha (by rw [h, b2i_f z])
  rw [b2i_t]
  intro j h0 h1
  rcases Int.lt_or_le j k with q | q
  · exact hq j h0 q
  · rw [show j = k by omega]; exact hp
theorem ba_0a {lo k a : Int} {p : Int → Prop} (h : a = b2i (∀ j, lo ≤ j → j < k → p j)) (ha : a = 0) : 0 = b2i (∀ j, lo ≤ j → j < k + 1 → p j) := by
  rw [ha] at h
  rw [b2i_f]
  intro z
  exact b2i_eq0.mp h.symm (fun j h0 h1 => z j h0 (by omega))
theorem ba_0p {lo k : Int} {p : Int → Prop} (hk : lo ≤ k) (hp : ¬ p k) : 0 = b2i (∀ j, lo ≤ j → j < k + 1 → p j) := by
  rw [b2i_f]
  intro z
  exact hp (z k hk (by omega))
theorem ba_i {lo : Int} {p : Int → Prop} : 1 = b2i (∀ j, lo ≤ j → j < lo → p j) := by
  rw [b2i_t]; intro j h0 h1; omega
theorem be_1a {lo k a : Int} {p : Int → Prop} (h : a = b2i (∃ j, lo ≤ j ∧ j < k ∧ p j)) (ha : ¬ a = 0) : 1 = b2i (∃ j, lo ≤ j ∧ j < k + 1 ∧ p j) := by
  obtain ⟨j, h0, h1, h2⟩ : ∃ j, lo ≤ j ∧ j < k ∧ p j := Classical.byContradiction fun z => ha (by rw [h, b2i_f z])
  rw [b2i_t ⟨j, h0, by omega, h2⟩]
theorem be_1p {lo k : Int} {p : Int → Prop} (hk : lo ≤ k) (hp : p k) : 1 = b2i (∃ j, lo ≤ j ∧ j < k + 1 ∧ p j) := by
  rw [b2i_t ⟨k, hk, by omega, hp⟩]
theorem be_0 {lo k a : Int} {p : Int → Prop} (h : a = b2i (∃ j, lo ≤ j ∧ j < k ∧ p j)) (ha : a = 0) (hp : ¬ p k) : 0 = b2i (∃ j, lo ≤ j ∧ j < k + 1 ∧ p j) := by
  rw [ha] at h
  rw [b2i_f]
  rintro ⟨j, h0, h1, h2⟩
  rcases Int.lt_or_le j k with q | q
  · exact b2i_eq0.mp h.symm ⟨j, h0, q, h2⟩
  · rw [show j = k by omega] at h2; exact hp h2
theorem be_i {lo : Int} {p : Int → Prop} : 0 = b2i (∃ j, lo ≤ j ∧ j < lo ∧ p j) := by
  rw [b2i_f]; rintro ⟨j, h0, h1, _⟩; omega
/-- down a chain while it is above a number -/
def dnF (f : Int → Int) : Nat → Int → Int → Int
  | 0, k, _ => k
  | n + 1, k, a => if a < k then dnF f n (f k) a else k
theorem dnF_s {f : Int → Int} {n : Nat} {k a : Int} (h : a < k) : dnF f (n + 1) k a = dnF f n (f k) a := if_pos h
theorem dnF_e {f : Int → Int} {n : Nat} {k a : Int} (h : k ≤ a) : dnF f n k a = k := by
  cases n with
  | zero => rfl
  | succ n => exact if_neg (by omega)
/-- the parent of a number -/
noncomputable def gM (s : Int → Int) (x : Int) : Int := mo s (mS s x) 1
theorem pwM_bd (s : Int → Int) (b : Int) (h0 : 0 ≤ s 0) (h1 : s 0 ≤ 16) : 0 ≤ pwM s b ∧ pwM s b ≤ 96 := by
  have := sm_bd (n := s 0) (f := fun k => sm 6 (fun p => b2i (mo s k (2 + p) = b))) 6 h0 (fun j _ _ => sm_b2i_bd (by omega))
  unfold pwM; omega
theorem fd_1 {q : Prop} {k a : Int} {p : Int → Prop} (h : a = b2i (q ∧ ∀ j, 0 ≤ j → j < k → p j)) (ha : ¬ a = 0) (hp : p k) : 1 = b2i (q ∧ ∀ j, 0 ≤ j → j < k + 1 → p j) := by
  have hq : q ∧ ∀ j, 0 ≤ j → j < k → p j := Classical.byContradiction fun z => ha (by rw [h, b2i_f z])
  rw [b2i_t ⟨hq.1, all_s hq.2 hp⟩]
theorem fd_0 {q : Prop} {k : Int} {p : Int → Prop} (hk : 0 ≤ k) (hp : ¬ p k) : 0 = b2i (q ∧ ∀ j, 0 ≤ j → j < k + 1 → p j) := by
  rw [b2i_f]
  intro z
  exact hp (z.2 k hk (by omega))
theorem fd_y {q : Prop} {k a n : Int} {p : Int → Prop} (h : a = b2i (q ∧ ∀ j, 0 ≤ j → j < k → p j)) (ha : ¬ a = 0) (hn : n ≤ k) : q ∧ ∀ j, 0 ≤ j → j < n → p j := by
  have hq : q ∧ ∀ j, 0 ≤ j → j < k → p j := Classical.byContradiction fun z => ha (by rw [h, b2i_f z])
  exact ⟨hq.1, fun j h0 h1 => hq.2 j h0 (by omega)⟩
theorem fd_no {q : Prop} {k a n : Int} {p : Int → Prop} (h : a = b2i (q ∧ ∀ j, 0 ≤ j → j < k → p j)) (ha : a = 0) (hn : k ≤ n) (h1 : q) (h2 : ∀ j, 0 ≤ j → j < n → p j) : False := by
  rw [ha] at h
  exact b2i_eq0.mp h.symm ⟨h1, fun j z0 z1 => h2 j z0 (by omega)⟩
theorem mS_c (s : Int → Int) (x : Int) : (fO (mS s x) = -1000004 ∧ mS s x = -1 ∧ ∀ j, 0 ≤ j → j < s 0 → ¬ mo s j 0 = x) ∨ (fO (mS s x) = mS s x ∧ 0 ≤ mS s x ∧ mS s x < s 0 ∧ mo s (mS s x) 0 = x) := fO_c _ _
/-- what holds of the reference's numbers -/
def MI (s : Int → Int) : Prop := mo s 0 0 = 0 ∧ mo s 0 1 = -1 ∧ (∀ i j, 0 ≤ i → i < j → j < s 0 → mo s i 0 < mo s j 0) ∧ (∀ k, 0 < k → k < s 0 → 0 ≤ mS s (mo s k 1) ∧ mo s k 1 < mo s k 0) ∧ 1 ≤ s 0 ∧ s 0 ≤ 16
theorem MI.nn {s : Int → Int} (h : MI s) {x : Int} (hx : 0 ≤ mS s x) : 0 ≤ x ∧ mS s x < s 0 ∧ (0 < x ↔ 0 < mS s x) := by
  obtain ⟨h0, h1, hi, hp, n0, n1⟩ := h
  rcases mS_c s x with z | ⟨_, z0, z1, z2⟩
  · omega
  · rcases Int.lt_or_le 0 (mS s x) with q | q
    · have := hi 0 (mS s x) (by omega) q z1
      rw [z2, h0] at this
      exact ⟨by omega, z1, ⟨fun _ => q, fun _ => this⟩⟩
    · have e : mS s x = 0 := by omega
      rw [e, h0] at z2
      exact ⟨by omega, z1, by omega⟩
theorem MI.par {s : Int → Int} (h : MI s) {x : Int} (hx : 0 ≤ mS s x) (h0 : 0 < x) : 0 ≤ mS s (gM s x) ∧ gM s x < x ∧ mS s (gM s x) < mS s x := by
  have hn := h.nn hx
  have hc := mS_c s x
  have hp := h.2.2.2.1 (mS s x) (hn.2.2.mp h0) hn.2.1
  have e : mo s (mS s x) 0 = x := by rcases hc with z | z <;> omega
  have hg : gM s x = mo s (mS s x) 1 := rfl
  rw [← hg, e] at hp
  refine ⟨hp.1, hp.2, ?_⟩
  have hc2 := mS_c s (gM s x)
  rcases Int.lt_or_le (mS s (gM s x)) (mS s x) with q | q
  · exact q
  · exfalso
    have e2 : mo s (mS s (gM s x)) 0 = gM s x := by rcases hc2 with z | z <;> omega
    rcases Int.lt_or_le (mS s x) (mS s (gM s x)) with q2 | q2
    · have := h.2.2.1 (mS s x) (mS s (gM s x)) (by omega) q2 (by rcases hc2 with z | z <;> omega)
      omega
    · have e3 : mS s (gM s x) = mS s x := by omega
      rw [e3, e] at e2; omega
theorem MI.par1 {s : Int → Int} (h : MI s) {x : Int} (hx : 0 ≤ mS s x) (h0 : 0 < x) : 0 ≤ mS s (mo s (mS s x) 1) ∧ mo s (mS s x) 1 < x ∧ mS s (mo s (mS s x) 1) < mS s x := h.par hx h0
/-- the first ancestor of one that is one of the other's too -/
noncomputable def cmM (s : Int → Int) (o : Int) : Nat → Int → Int
  | 0, k => k
  | n + 1, k => if dnF (gM s) 16 o k = k then k else cmM s o n (gM s k)
theorem cmM_e {s : Int → Int} {o : Int} {n : Nat} {k : Int} (h : dnF (gM s) 16 o k = k) : cmM s o n k = k := by
  cases n with
  | zero => rfl
  | succ n => exact if_pos h
theorem cmM_s {s : Int → Int} {o : Int} {n : Nat} {k : Int} (h : ¬ dnF (gM s) 16 o k = k) : cmM s o (n + 1) k = cmM s o n (gM s k) := if_neg h
theorem dnF_0 {s : Int → Int} (h : MI s) : ∀ (n : Nat) (x : Int), 0 ≤ mS s x → mS s x < n → dnF (gM s) n x 0 = 0
  | 0, x, h0, h1 => by omega
  | n + 1, x, h0, h1 => by
    have hn := h.nn h0
    rcases Int.lt_or_le 0 x with q | q
    · have hp := h.par h0 q
      rw [dnF_s q]
      exact dnF_0 h n _ hp.1 (by omega)
    · rw [dnF_e q]; omega
/-- the first that is there and like a block -/
noncomputable def llM (s : Int → Int) (b : Int) : Int := fnd 40 (fun o => mf s o = 1 ∧ ∀ c, 0 ≤ c → c < 8 → mb s o c = mb s b c)
/-- down the parents to the first state with a property -/
noncomputable def bfM (s : Int → Int) (d : Int → Prop) : Nat → Int → Int
  | 0, k => k
  | n + 1, k => if k < 0 then k else @ite _ (d (fO (mS s k))) (Classical.propDecidable _) k (bfM s d n (mo s (fO (mS s k)) 1))
/-! the reference's writes -/
def DFm (s ce : Int → Int) (k p : Int) : Prop := ∃ c, 8 * p ≤ c ∧ c < 8 * p + 8 ∧ ¬ ce c = mc s k c
noncomputable def FDm (s ce : Int → Int) (p : Int) : Int := fnd 40 (fun b => 0 ≤ b ∧ b ≤ 39 ∧ mf s b = 1 ∧ ∀ c, 0 ≤ c → c < 8 → mb s b c = ce (8 * p + c))
def SMm (ce : Int → Int) (p q : Int) : Prop := ∀ c, 0 ≤ c → c < 8 → ce (8 * p + c) = ce (8 * q + c)
theorem FDm_c (s ce : Int → Int) (p : Int) : (fO (FDm s ce p) = -1000004 ∧ FDm s ce p = -1) ∨ (fO (FDm s ce p) = FDm s ce p ∧ 0 ≤ FDm s ce p ∧ FDm s ce p < 40) := by
  have := fO_c 40 (fun b => 0 ≤ b ∧ b ≤ 39 ∧ mf s b = 1 ∧ ∀ c, 0 ≤ c → c < 8 → mb s b c = ce (8 * p + c))
  rcases this with h | h
  · exact Or.inl ⟨h.1, h.2.1⟩
  · exact Or.inr ⟨h.1, h.2.1, h.2.2.1⟩
def TKm (s ce : Int → Int) (k p : Int) : Prop := (s 5 = 1 ∧ 0 ≤ fO (FDm s ce p)) ∨ ∃ q, 0 ≤ q ∧ q < p ∧ s 5 = 1 ∧ DFm s ce k q ∧ SMm ce p q
noncomputable def NDm (s ce : Int → Int) (k : Int) : Int := sm 6 (fun p => b2i (DFm s ce k p ∧ ¬ TKm s ce k p))
def mkM (s ce : Int → Int) (b p : Int) : Int → Int := updI (cpI ce (updI s (138 + 9 * b) 1) (8 * p) (138 + 9 * b + 1) 8) 2 (s 2 + 1)
/-- the block for a place at which cells become different -/
def bfR (s ce : Int → Int) (p r : Int) (s' : Int → Int) : Prop :=
  (s 5 = 1 ∧ 0 ≤ FDm s ce p ∧ r = FDm s ce p ∧ s' = updI s 3 (s 3 + 1)) ∨ (¬ (s 5 = 1 ∧ 0 ≤ FDm s ce p) ∧ 0 ≤ r ∧ r < 40 ∧ ¬ mf s r = 1 ∧ (∀ b, 0 ≤ b → b < r → mf s b = 1) ∧ s' = mkM s ce r p)
def wrR (ce : Int → Int) (fr k : Int) (s : Int → Int) (p : Nat) (s' : Int → Int) : Prop :=
  (¬ DFm s ce fr (p : Int) ∧ s' = updI s (10 + 8 * k + 2 + (p : Int)) (mo s fr (2 + (p : Int)))) ∨ (DFm s ce fr (p : Int) ∧ ∃ r s1, bfR s ce (p : Int) r s1 ∧ s' = updI s1 (10 + 8 * k + 2 + (p : Int)) r)
def wrC (ce : Int → Int) (fr k : Int) (s : Int → Int) : Nat → (Int → Int) → Prop
  | 0, s' => s' = s
  | p + 1, s' => ∃ sp, wrC ce fr k s p sp ∧ wrR ce fr k sp p s'
def wr0 (s : Int → Int) (b : Int) : Int → Int := updI (updI s (10 + 8 * s 0 + 0) (s 1)) (10 + 8 * s 0 + 1) (mh s b)
def wr9 (s6 : Int → Int) (b num : Int) : Int → Int := updI (updI (updI s6 0 (s6 0 + 1)) 1 (s6 1 + 1)) (6 + b) num
/-- changes(): a record is kept, unless orders run -/
def chN (V : Vt) : Int := if V 16 0 3 = 4 then 3 else V 16 0 3
def chP (V : Vt) : Int → Int := cpI (V 17 0) (if V 16 0 3 = 4 then cpI (V 18 0) (V 18 0) 498 0 1494 else V 18 0) 0 (498 * chN V) 498
def chV (V : Vt) : Vt := if V 16 0 4 = 0 then up (up V 18 0 (chP V)) 16 0 (updI (V 16 0) 3 (chN V + 1)) else V
/-- blocks that no state has are gone -/
noncomputable def swS (s : Int → Int) (k : Int) : Int → Int := fun j => @ite _ (∃ b, 0 ≤ b ∧ b < k ∧ j = 138 + 9 * b ∧ mf s b = 1 ∧ pwM s b = 0) (Classical.propDecidable _) 0 (s j)
theorem swS_0 {s : Int → Int} : swS s 0 = s := by
  funext j; exact if_neg (fun ⟨b, h0, h1, _⟩ => by omega)
theorem swS_t {s : Int → Int} {k : Int} (hk : 0 ≤ k) (h1 : mf s k = 1) (h2 : pwM s k = 0) : updI (swS s k) (138 + 9 * k) 0 = swS s (k + 1) := by
  funext j
  unfold updI swS
  by_cases hj : j = 138 + 9 * k
  · rw [if_pos hj, if_pos ⟨k, hk, by omega, hj, h1, h2⟩]
  · rw [if_neg hj]
    by_cases h : ∃ b, 0 ≤ b ∧ b < k ∧ j = 138 + 9 * b ∧ mf s b = 1 ∧ pwM s b = 0
    · obtain ⟨b, z⟩ := h
      rw [if_pos ⟨b, z⟩, if_pos ⟨b, z.1, by omega, z.2.2⟩]
    · rw [if_neg h, if_neg (fun ⟨b, z⟩ => h ⟨b, z.1, by omega, z.2.2⟩)]
theorem swS_f {s : Int → Int} {k : Int} (h : ¬ (mf s k = 1 ∧ pwM s k = 0)) : swS s k = swS s (k + 1) := by
  funext j
  unfold swS
  by_cases h : ∃ b, 0 ≤ b ∧ b < k ∧ j = 138 + 9 * b ∧ mf s b = 1 ∧ pwM s b = 0
  · obtain ⟨b, z⟩ := h
    rw [if_pos ⟨b, z⟩, if_pos ⟨b, z.1, by omega, z.2.2⟩]
  · rw [if_neg h, if_neg (fun ⟨b, z⟩ => by
      rcases Int.lt_or_le b k with q | q
      · exact h ⟨b, z.1, q, z.2.2⟩
      · have e : b = k := by omega
        subst e; exact absurd z.2.2.2 (by assumption))]
/-- other numbers than flags are left -/
theorem swS_o {s : Int → Int} {k j : Int} (h : ∀ b, 0 ≤ b → b < 40 → j ≠ 138 + 9 * b) (hk : k ≤ 40) : swS s k j = s j := if_neg (fun ⟨b, z⟩ => h b z.1 (by omega) z.2.2.1)
theorem pwM_congr {s t : Int → Int} (h : ∀ j, 0 ≤ j → j < 138 → s j = t j) (h0 : 0 ≤ s 0) (h1 : s 0 ≤ 16) (b : Int) : pwM s b = pwM t b := by
  unfold pwM
  rw [← h 0 (by omega) (by omega)]
  refine sm_congr (fun k k0 k1 => sm_congr (fun p p0 p1 => ?_))
  unfold mo
  rw [h _ (by omega) (by omega)]
/-- a state is forgotten: parents put over, the states behind moved down, blocks swept -/
def fgP (s : Int → Int) (x par : Int) (k : Int) : Int → Int := fun j => if 11 ≤ j ∧ j < 11 + 8 * k ∧ (j - 11) % 8 = 0 ∧ s j = x then par else s j
def fgM (s : Int → Int) (x par at_ n : Int) : Int → Int := cpI (updI (fgP s x par n) 0 (n - 1)) (updI (fgP s x par n) 0 (n - 1)) (10 + 8 * at_ + 8) (10 + 8 * at_) (8 * (n - 1) - 8 * at_)
theorem mk_2 {f g : Int → Int} {b p : Int} (hb : 0 ≤ b) : cpI f (updI g (138 + 9 * b) 1) p (138 + 9 * b + 1) 8 2 = g 2 := by
  unfold cpI updI; rw [if_neg (by omega), if_neg (by omega)]
theorem tk_0 {F : Prop} {p : Int → Prop} (h : ¬ F) : ¬ (F ∨ ∃ j, 0 ≤ j ∧ j < 0 ∧ p j) := by
  rintro (z | ⟨j, h0, h1, _⟩)
  · exact h z
  · omega
theorem tk_1a {F : Prop} {p : Int → Prop} {k a : Int} (h : a = b2i (F ∨ ∃ j, 0 ≤ j ∧ j < k ∧ p j)) (ha : ¬ a = 0) : 1 = b2i (F ∨ ∃ j, 0 ≤ j ∧ j < k + 1 ∧ p j) := by
  have hq : F ∨ ∃ j, 0 ≤ j ∧ j < k ∧ p j := Classical.byContradiction fun z => ha (by rw [h, b2i_f z])
  rw [b2i_t]
  rcases hq with z | ⟨j, h0, h1, h2⟩
  · exact Or.inl z
  · exact Or.inr ⟨j, h0, by omega, h2⟩
theorem tk_1p {F : Prop} {p : Int → Prop} {k : Int} (hk : 0 ≤ k) (hp : p k) : 1 = b2i (F ∨ ∃ j, 0 ≤ j ∧ j < k + 1 ∧ p j) := by
  rw [b2i_t (Or.inr ⟨k, hk, by omega, hp⟩)]
theorem tk_0s {F : Prop} {p : Int → Prop} {k a : Int} (h : a = b2i (F ∨ ∃ j, 0 ≤ j ∧ j < k ∧ p j)) (ha : a = 0) (hp : ¬ p k) : 0 = b2i (F ∨ ∃ j, 0 ≤ j ∧ j < k + 1 ∧ p j) := by
  rw [ha] at h
  have hn := b2i_eq0.mp h.symm
  rw [b2i_f]
  rintro (z | ⟨j, h0, h1, h2⟩)
  · exact hn (Or.inl z)
  · rcases Int.lt_or_le j k with q | q
    · exact hn (Or.inr ⟨j, h0, q, h2⟩)
    · rw [show j = k by omega] at h2; exact hp h2
theorem tk_y {F : Prop} {p : Int → Prop} {k a n : Int} (h : a = b2i (F ∨ ∃ j, 0 ≤ j ∧ j < k ∧ p j)) (ha : ¬ a = 0) (hn : k ≤ n) : F ∨ ∃ j, 0 ≤ j ∧ j < n ∧ p j := by
  have hq : F ∨ ∃ j, 0 ≤ j ∧ j < k ∧ p j := Classical.byContradiction fun z => ha (by rw [h, b2i_f z])
  rcases hq with z | ⟨j, h0, h1, h2⟩
  · exact Or.inl z
  · exact Or.inr ⟨j, h0, by omega, h2⟩
theorem tk_n {F : Prop} {p : Int → Prop} {k a n : Int} (h : a = b2i (F ∨ ∃ j, 0 ≤ j ∧ j < k ∧ p j)) (ha : a = 0) (hn : n ≤ k) : ¬ (F ∨ ∃ j, 0 ≤ j ∧ j < n ∧ p j) := by
  rw [ha] at h
  have hq := b2i_eq0.mp h.symm
  rintro (z | ⟨j, h0, h1, h2⟩)
  · exact hq (Or.inl z)
  · exact hq (Or.inr ⟨j, h0, by omega, h2⟩)
theorem updI_updI {f : Int → Int} {i a b : Int} : updI (updI f i a) i b = updI f i b := by
  funext j; unfold updI; split <;> rfl
theorem cpI_sh {P : Int → Int} {k : Int} (hk : 0 ≤ k) : updI (cpI P P 498 0 k) k (cpI P P 498 0 k (k + 498)) = cpI P P 498 0 (k + 1) := by
  have e : cpI P P 498 0 k (k + 498) = P (498 + k) := by
    unfold cpI; rw [if_neg (by omega)]; congr 1; omega
  have := cpI_s (f := P) (g := P) (sp := 498) (dp := 0) hk
  rw [Int.zero_add] at this
  rw [e]; exact this
theorem ch_s {V : Vt} {k : Int} (hk : 0 ≤ k) : up (up V 18 0 (cpI (V 17 0) (V 18 0) 0 (498 * V 16 0 3) k)) 18 0 (updI (cpI (V 17 0) (V 18 0) 0 (498 * V 16 0 3) k) (498 * V 16 0 3 + k) (V 17 0 k)) = up V 18 0 (cpI (V 17 0) (V 18 0) 0 (498 * V 16 0 3) (k + 1)) := by
  have := cpI_s (f := V 17 0) (g := V 18 0) (sp := 0) (dp := 498 * V 16 0 3) hk
  rw [Int.zero_add] at this
  rw [this, upup]
theorem ch_a {V : Vt} (h4 : ¬ V 16 0 3 = 4) (hr : V 16 0 4 = 0) : chV V = up (up V 18 0 (cpI (V 17 0) (V 18 0) 0 (498 * V 16 0 3) 498)) 16 0 (updI (V 16 0) 3 (V 16 0 3 + 1)) := by
  unfold chV chP chN
  rw [if_pos hr, if_neg h4, if_neg h4]
theorem ch_b {V : Vt} (h4 : V 16 0 3 = 4) (hr : V 16 0 4 = 0) : chV V = up (up V 18 0 (cpI (V 17 0) (cpI (V 18 0) (V 18 0) 498 0 1494) 0 (498 * 3) 498)) 16 0 (updI (V 16 0) 3 (3 + 1)) := by
  unfold chV chP chN
  rw [if_pos hr, if_pos h4, if_pos h4]
theorem ch_o {V : Vt} {r : Nat} (h1 : r ≠ 16) (h2 : r ≠ 18) : chV V r = V r := by
  unfold chV; split
  · rw [up_r h1, up_r h2]
  · rfl
def FITm (s ce : Int → Int) (b : Int) : Prop := s 0 < 16 ∧ sm 40 (fun d => mf s d) + NDm s ce (mS s (mh s b)) ≤ 40
/-- where a write fits, a block is free wherever one is made -/
def HFm (s : Int → Int) (b : Int) : Prop := ∀ (ce : Int → Int) (p : Nat) (sp : Int → Int), FITm s ce b → p < 6 → wrC ce (mS s (mh s b)) (s 0) (wr0 s b) p sp → DFm sp ce (mS s (mh s b)) (p : Int) → ¬ (sp 5 = 1 ∧ 0 ≤ FDm sp ce (p : Int)) → ∃ d, 0 ≤ d ∧ d < 40 ∧ ¬ mf sp d = 1
def MH (s : Int → Int) : Prop := (∀ b, 0 ≤ b → b < 4 → 0 ≤ mh s b → 0 ≤ mS s (mh s b)) ∧ (∀ d, 0 ≤ d → d < 40 → mf s d = 0 ∨ mf s d = 1) ∧ ∀ b, 0 ≤ b → b < 4 → 0 ≤ mh s b → HFm s b
theorem mkM_o {s ce : Int → Int} {b p j : Int} (hb : 0 ≤ b) (hj : j < 138) (h2 : j ≠ 2) : mkM s ce b p j = s j := by
  unfold mkM
  rw [updI_n h2]
  show (if 138 + 9 * b + 1 ≤ j ∧ j < 138 + 9 * b + 1 + 8 then _ else updI s (138 + 9 * b) 1 j) = _
  rw [if_neg (by omega), updI_n (by omega)]
theorem bfR_k {s ce s' : Int → Int} {p r : Int} (h : bfR s ce p r s') : 0 ≤ r ∧ r < 40 ∧ (∀ j, 5 ≤ j → j < 138 → s' j = s j) ∧ s' 0 = s 0 ∧ s' 1 = s 1 := by
  rcases h with ⟨_, h0, rfl, rfl⟩ | ⟨_, h0, h1, _, _, rfl⟩
  · have := FDm_c s ce p
    refine ⟨h0, by omega, fun j j0 j1 => ?_, ?_, ?_⟩ <;> exact updI_n (by omega)
  · exact ⟨h0, h1, fun j j0 j1 => mkM_o h0 (by omega) (by omega), mkM_o h0 (by omega) (by omega), mkM_o h0 (by omega) (by omega)⟩
theorem wrR_k {ce s s' : Int → Int} {fr k : Int} {p : Nat} (h : wrR ce fr k s p s') (hk : 0 ≤ k) (hk2 : k < 16) (hp : p < 6) (hf : 0 ≤ fr) (hf2 : fr < 16) (hL : ∀ k p, 0 ≤ k → k < 16 → 0 ≤ p → p < 6 → 0 ≤ mo s k (2 + p) ∧ mo s k (2 + p) < 40) : (∀ k p, 0 ≤ k → k < 16 → 0 ≤ p → p < 6 → 0 ≤ mo s' k (2 + p) ∧ mo s' k (2 + p) < 40) ∧ s' 0 = s 0 ∧ s' 1 = s 1 ∧ s' 5 = s 5 := by
  rcases h with ⟨_, rfl⟩ | ⟨_, r, s1, hb, rfl⟩
  · refine ⟨fun k' p' a b c d => ?_, updI_n (by omega), updI_n (by omega), updI_n (by omega)⟩
    have z := hL fr (p : Int) hf hf2 (by omega) (by omega)
    have z2 := hL k' p' a b c d
    have e : mo (updI s (10 + 8 * k + 2 + (p : Int)) (mo s fr (2 + (p : Int)))) k' (2 + p') = updI s (10 + 8 * k + 2 + (p : Int)) (mo s fr (2 + (p : Int))) (10 + 8 * k' + (2 + p')) := rfl
    rw [e]
    rcases updI_b (f := s) (i := 10 + 8 * k + 2 + (p : Int)) (x := mo s fr (2 + (p : Int))) (10 + 8 * k' + (2 + p')) with q | q <;> rw [q]
    · exact z2
    · exact z
  · obtain ⟨r0, r1, hs, e0, e1⟩ := bfR_k hb
    refine ⟨fun k' p' a b c d => ?_, (updI_n (by omega)).trans e0, (updI_n (by omega)).trans e1, (updI_n (by omega)).trans (hs 5 (by omega) (by omega))⟩
    have z2 := hL k' p' a b c d
    have e : mo (updI s1 (10 + 8 * k + 2 + (p : Int)) r) k' (2 + p') = updI s1 (10 + 8 * k + 2 + (p : Int)) r (10 + 8 * k' + (2 + p')) := rfl
    rw [e]
    rcases updI_b (f := s1) (i := 10 + 8 * k + 2 + (p : Int)) (x := r) (10 + 8 * k' + (2 + p')) with q | q <;> rw [q]
    · rw [hs _ (by omega) (by omega)]; exact z2
    · exact ⟨r0, r1⟩
/-- what a try to write answers and leaves -/
def trQ (V : Vt) (b r : Int) (V' : Vt) : Prop := (¬ FITm (V 17 0) (V 21 0) b ∧ r = -1000003 ∧ V' = V) ∨ (FITm (V 17 0) (V 21 0) b ∧ r = V 17 0 1 ∧ ∃ s6, wrC (V 21 0) (mS (V 17 0) (mh (V 17 0) b)) (V 17 0 0) (wr0 (V 17 0) b) 6 s6 ∧ V' = up (chV V) 17 0 (wr9 s6 b (V 17 0 1)))
theorem cmM_ok {s : Int → Int} (h : MI s) {o : Int} (ho : 0 ≤ mS s o) : ∀ (n : Nat) (k : Int), 0 ≤ mS s k → mS s k < n → 0 ≤ mS s (cmM s o n k)
  | 0, k, h0, h1 => by omega
  | n + 1, k, h0, h1 => by
    by_cases hd : dnF (gM s) 16 o k = k
    · rw [cmM_e hd]; exact h0
    · rw [cmM_s hd]
      have hk : 0 < k := by
        rcases Int.lt_or_le 0 k with q | q
        · exact q
        · have hn := h.nn h0
          have e : k = 0 := by omega
          subst e
          have z := h.nn ho
          have z2 := h.2.2.2.2.2
          exact absurd (dnF_0 h 16 o ho (by omega)) hd
      have hp := h.par h0 hk
      exact cmM_ok h ho n _ hp.1 (by omega)
theorem wr0_L {s : Int → Int} {b : Int} (h0 : 0 ≤ s 0) (h1 : s 0 < 16) (hL : ∀ k p, 0 ≤ k → k < 16 → 0 ≤ p → p < 6 → 0 ≤ mo s k (2 + p) ∧ mo s k (2 + p) < 40) : ∀ k p, 0 ≤ k → k < 16 → 0 ≤ p → p < 6 → 0 ≤ mo (wr0 s b) k (2 + p) ∧ mo (wr0 s b) k (2 + p) < 40 := by
  intro k p a b' c d
  have e : mo (wr0 s b) k (2 + p) = mo s k (2 + p) := by
    unfold mo wr0; rw [updI_n (by omega), updI_n (by omega)]
  rw [e]; exact hL k p a b' c d
theorem wr0_0 {s : Int → Int} {b : Int} (h0 : 0 ≤ s 0) : wr0 s b 0 = s 0 := by unfold wr0; rw [updI_n (by omega), updI_n (by omega)]
theorem wr0_1 {s : Int → Int} {b : Int} (h0 : 0 ≤ s 0) : wr0 s b 1 = s 1 := by unfold wr0; rw [updI_n (by omega), updI_n (by omega)]
theorem wr_ix {f : Int → Int} {a b c x : Int} : updI f (a + b + c) x = updI f (a + b + c) x := rfl
theorem wr9_1 {f : Int → Int} {x : Int} : updI f 0 x 1 = f 1 := updI_n (by omega)
theorem flI_c {f : Int → Int} {a c v : Int} (h : a ≤ c) : updI (flI f a (c - a) v) c v = flI f a (c + 1 - a) v := by
  have := flI_s (f := f) (a := a) (k := c - a) (v := v) (by omega)
  rw [show a + (c - a) = c by omega, show c - a + 1 = c + 1 - a by omega] at this
  exact this
theorem fd_0a {q : Prop} {k a : Int} {p : Int → Prop} (h : a = b2i (q ∧ ∀ j, 0 ≤ j → j < k → p j)) (ha : a = 0) : 0 = b2i (q ∧ ∀ j, 0 ≤ j → j < k + 1 → p j) := by
  rw [ha] at h
  rw [b2i_f]
  intro z
  exact b2i_eq0.mp h.symm ⟨z.1, fun j z0 z1 => z.2 j z0 (by omega)⟩
noncomputable def FBm (s : Int → Int) : Int := fnd 4 (fun b => ¬ 0 ≤ mh s b)
/-- down the parents while a cell is the same -/
noncomputable def bfG (s : Int → Int) (d : Int → Prop) : Nat → Int → Int
  | 0, k => k
  | n + 1, k => if k < 0 then k else @ite _ (d (mS s k)) (Classical.propDecidable _) k (bfG s d n (mo s (mS s k) 1))
theorem bfG_n {s : Int → Int} {d : Int → Prop} {n : Nat} {k : Int} (h : k < 0) : bfG s d n k = k := by
  cases n with
  | zero => rfl
  | succ n => exact if_pos h
theorem bfG_y {s : Int → Int} {d : Int → Prop} {n : Nat} {k : Int} (hd : d (mS s k)) : bfG s d n k = k := by
  cases n with
  | zero => rfl
  | succ n =>
    unfold bfG
    by_cases h : k < 0
    · rw [if_pos h]
    · rw [if_neg h, if_pos hd]
theorem bfG_s {s : Int → Int} {d : Int → Prop} {n : Nat} {k : Int} (h : 0 ≤ k) (hd : ¬ d (mS s k)) : bfG s d (n + 1) k = bfG s d n (mo s (mS s k) 1) := by
  show (if k < 0 then k else _) = _
  rw [if_neg (by omega), if_neg hd]
theorem MI.par0 {s : Int → Int} (h : MI s) {k : Int} (hk : 0 ≤ mS s k) (h0 : k = 0) : mo s (mS s k) 1 = -1 := by
  have hn := h.nn hk
  rw [show mS s k = 0 by omega]; exact h.2.1
theorem MH.x {s : Int → Int} (h : MH s) {b : Int} (h0 : 0 ≤ b) (h1 : b < 4) (h2 : 0 ≤ mh s b) : 0 ≤ mS s (mh s b) := h.1 b h0 h1 h2
theorem cmM_R {s : Int → Int} (h : MI s) {o : Int} (ho : 0 ≤ mS s o) : ∀ (n : Nat) (k : Int), 0 ≤ mS s k → inR k → inR (cmM s o n k)
  | 0, _, _, hk => hk
  | n + 1, k, h0, hk => by
    by_cases hd : dnF (gM s) 16 o k = k
    · rw [cmM_e hd]; exact hk
    · rw [cmM_s hd]
      have hk0 : 0 < k := by
        rcases Int.lt_or_le 0 k with q | q
        · exact q
        · have hn := h.nn h0
          have e : k = 0 := by omega
          subst e
          have z := h.nn ho
          have z2 := h.2.2.2.2.2
          exact absurd (dnF_0 h 16 o ho (by omega)) hd
      have hp := h.par h0 hk0
      have hn := h.nn hp.1
      exact cmM_R h ho n _ hp.1 (by omega)
theorem un_m {a k : Int} (h0 : 0 ≤ k) (h1 : k < 498) : (498 * a + k) % 498 = k := by
  rw [Int.add_comm, Int.add_mul_emod_self_left]
  exact Int.emod_eq_of_lt h0 h1
theorem llM_c (s : Int → Int) (b : Int) (h0 : 0 ≤ b) (h1 : b < 40) (hf : mf s b = 1) : 0 ≤ llM s b ∧ llM s b ≤ b := by
  rcases fnd_c 40 (fun o => mf s o = 1 ∧ ∀ c, 0 ≤ c → c < 8 → mb s o c = mb s b c) with ⟨_, h⟩ | ⟨z0, _, _, z3⟩
  · exact absurd ⟨hf, fun _ _ _ => rfl⟩ (h b h0 h1)
  · refine ⟨z0, ?_⟩
    rcases Int.lt_or_le b (llM s b) with q | q
    · exact absurd ⟨hf, fun _ _ _ => rfl⟩ (z3 b h0 q)
    · exact q
theorem un_s {p s : Int → Int} {a k : Int} (hk : 0 ≤ k) : updI (cpI p s (498 * a) 0 k) k (p (498 * a + k)) = cpI p s (498 * a) 0 (k + 1) := by
  have := cpI_s (f := p) (g := s) (sp := 498 * a) (dp := 0) hk
  rw [Int.zero_add] at this
  exact this
end SP
theorem swS_k {s : Int → Int} {k : Int} : swS s k (138 + 9 * k) = s (138 + 9 * k) := if_neg (fun ⟨b, z0, z1, z2, _⟩ => by omega)
theorem fgP_0 {s : Int → Int} {x par : Int} : fgP s x par 0 = s := by
  funext j; exact if_neg (by omega)
theorem fgP_k {s : Int → Int} {x par k j : Int} (h : 11 + 8 * k ≤ j) : fgP s x par k j = s j := if_neg (by omega)
theorem fgP_n {s : Int → Int} {x par k j : Int} (h : ¬ (11 ≤ j ∧ (j - 11) % 8 = 0)) : fgP s x par k j = s j := if_neg (fun z => h ⟨z.1, z.2.2.1⟩)
theorem fgP_t {s : Int → Int} {x par k : Int} (h0 : 0 ≤ k) (h : mo s k 1 = x) : updI (fgP s x par k) (10 + 8 * k + 1) par = fgP s x par (k + 1) := by
  funext j
  unfold mo at h
  unfold updI fgP
  by_cases hj : j = 10 + 8 * k + 1
  · rw [if_pos hj, if_pos ⟨by omega, by omega, by omega, by rw [hj]; exact h⟩]
  · rw [if_neg hj]
    by_cases hp : 11 ≤ j ∧ j < 11 + 8 * k ∧ (j - 11) % 8 = 0 ∧ s j = x
    · rw [if_pos hp, if_pos ⟨hp.1, by omega, hp.2.2⟩]
    · rw [if_neg hp, if_neg (fun z => hp ⟨z.1, by omega, z.2.2⟩)]
theorem fgP_f {s : Int → Int} {x par k : Int} (h0 : 0 ≤ k) (h : ¬ mo s k 1 = x) : updI (fgP s x par k) (10 + 8 * k + 1) (mo s k 1) = fgP s x par (k + 1) := by
  funext j
  by_cases hj : j = 10 + 8 * k + 1
  · have e : fgP s x par (k + 1) j = s j := if_neg (fun z => h (by unfold mo; rw [← hj]; exact z.2.2.2))
    rw [e, hj]; unfold updI mo; rw [if_pos rfl]
  · unfold updI fgP
    rw [if_neg hj]
    by_cases hp : 11 ≤ j ∧ j < 11 + 8 * k ∧ (j - 11) % 8 = 0 ∧ s j = x
    · rw [if_pos hp, if_pos ⟨hp.1, by omega, hp.2.2⟩]
    · rw [if_neg hp, if_neg (fun z => hp ⟨z.1, by omega, z.2.2⟩)]
theorem fg_s {u : Int → Int} {d i : Int} (h : d ≤ i) : updI (cpI u u (d + 8) d (i - d)) i (cpI u u (d + 8) d (i - d) (i + 8)) = cpI u u (d + 8) d (i + 1 - d) := by
  have e : cpI u u (d + 8) d (i - d) (i + 8) = u (d + 8 + (i - d)) := by
    unfold cpI; rw [if_neg (by omega)]; congr 1; omega
  have := cpI_s (f := u) (g := u) (sp := d + 8) (dp := d) (k := i - d) (by omega)
  rw [show d + (i - d) = i by omega, show i - d + 1 = i + 1 - d by omega] at this
  rw [e]; exact this
theorem fgM_L {s : Int → Int} {x par a n : Int} (hL : ∀ k p, 0 ≤ k → k < 16 → 0 ≤ p → p < 6 → 0 ≤ mo s k (2 + p) ∧ mo s k (2 + p) < 40) (ha : 0 ≤ a) (hn : n ≤ 16) : ∀ k p, 0 ≤ k → k < 16 → 0 ≤ p → p < 6 → 0 ≤ mo (fgM s x par a n) k (2 + p) ∧ mo (fgM s x par a n) k (2 + p) < 40 := by
  intro k p k0 k1 p0 p1
  have hu : ∀ q, 0 ≤ q → updI (fgP s x par n) 0 (n - 1) (10 + 8 * q + (2 + p)) = s (10 + 8 * q + (2 + p)) := by
    intro q q0
    unfold updI
    rw [if_neg (by omega), fgP_n (by omega)]
  by_cases hr : 10 + 8 * a ≤ 10 + 8 * k + (2 + p) ∧ 10 + 8 * k + (2 + p) < 10 + 8 * a + (8 * (n - 1) - 8 * a)
  · have e : mo (fgM s x par a n) k (2 + p) = mo s (k + 1) (2 + p) := by
      unfold mo
      rw [← hu (k + 1) (by omega)]
      unfold fgM cpI
      rw [if_pos hr]
      congr 1; omega
    rw [e]; exact hL (k + 1) p (by omega) (by omega) p0 p1
  · have e : mo (fgM s x par a n) k (2 + p) = mo s k (2 + p) := by
      unfold mo
      rw [← hu k k0]
      unfold fgM cpI
      rw [if_neg hr]
    rw [e]; exact hL k p k0 k1 p0 p1
theorem fgM_0 {s : Int → Int} {x par a n : Int} (ha : 0 ≤ a) : fgM s x par a n 0 = n - 1 := by
  unfold fgM cpI; rw [if_neg (by omega)]; exact if_pos rfl
theorem fr_o {s : Int → Int} {x par a n j : Int} (ha : 0 ≤ a) (h1 : a < n) (hn : n ≤ 16) (hj : ¬ (0 ≤ j ∧ j < 498)) : swS (fgM s x par a n) 40 j = s j := by
  rw [swS_o (by omega) (by omega)]
  unfold fgM cpI
  rw [if_neg (by omega)]
  unfold updI
  rw [if_neg (by omega)]
  exact if_neg (by omega)
theorem fr_r {s h : Int → Int} {x par a n : Int} (ha : 0 ≤ a) (h1 : a < n) (hn : n ≤ 16) : cpI (cpI s h 0 0 498) (swS (fgM s x par a n) 40) 0 0 498 = s := by
  funext j
  by_cases hj : 0 ≤ j ∧ j < 498
  · have e : ∀ (f g : Int → Int), cpI f g 0 0 498 j = f j := by
      intro f g; unfold cpI; rw [if_pos (by omega)]; congr 1; omega
    rw [e, e]
  · have e : ∀ (f g : Int → Int), cpI f g 0 0 498 j = g j := by
      intro f g; unfold cpI; rw [if_neg (by omega)]
    rw [e]; exact fr_o ha h1 hn hj
theorem cp_s {f g : Int → Int} {k : Int} (hk : 0 ≤ k) : updI (cpI f g 0 0 k) k (f k) = cpI f g 0 0 (k + 1) := by
  have := cpI_s (f := f) (g := g) (sp := 0) (dp := 0) hk
  rw [Int.zero_add] at this
  exact this
theorem cp_i {f g : Int → Int} {j : Int} (h0 : 0 ≤ j) (h1 : j < 498) : cpI f g 0 0 498 j = f j := by
  unfold cpI; rw [if_pos (by omega)]; congr 1; omega
theorem up_bk {V : Vt} {C X : Int → Int} : up (up (up V 19 0 C) 17 0 X) 17 0 (V 17 0) = up V 19 0 C := by
  rw [upup]
  exact up_self (V := up V 19 0 C) (r := 17) (w := 0)
/-- every place has the lowest block with the same contents, up to a place -/
noncomputable def shS (s : Int → Int) (k p : Int) : Int → Int := fun j => if 10 ≤ j ∧ 2 ≤ (j - 10) % 8 ∧ ((j - 10) / 8 < k ∨ ((j - 10) / 8 = k ∧ (j - 10) % 8 - 2 < p)) then llM s (s j) else s j
theorem shS_0 {s : Int → Int} : shS s 0 0 = s := by
  funext j; exact if_neg (by omega)
theorem shS_n {s : Int → Int} {k : Int} : shS s k 6 = shS s (k + 1) 0 := by
  funext j
  unfold shS
  by_cases h : 10 ≤ j ∧ 2 ≤ (j - 10) % 8 ∧ ((j - 10) / 8 < k ∨ ((j - 10) / 8 = k ∧ (j - 10) % 8 - 2 < 6))
  · rw [if_pos h, if_pos (by omega)]
  · rw [if_neg h, if_neg (by omega)]
theorem shS_o {s : Int → Int} {k p j : Int} (hk : k ≤ 15 ∨ k ≤ 16 ∧ p = 0) (h : j < 12 ∨ 138 ≤ j) : shS s k p j = s j := if_neg (by omega)
theorem shS_k {s : Int → Int} {k p : Int} (h0 : 0 ≤ p) (h1 : p < 6) : mo (shS s k p) k (2 + p) = mo s k (2 + p) := by
  unfold mo; exact if_neg (by omega)
theorem shS_s {s : Int → Int} {k p : Int} (hk : 0 ≤ k) (h0 : 0 ≤ p) (h1 : p < 6) : updI (shS s k p) (10 + 8 * k + 2 + p) (llM s (mo s k (2 + p))) = shS s k (p + 1) := by
  funext j
  unfold updI
  by_cases hj : j = 10 + 8 * k + 2 + p
  · rw [if_pos hj]
    have e : shS s k (p + 1) j = llM s (s j) := if_pos (by omega)
    rw [e, hj]; unfold mo; rw [show 10 + 8 * k + 2 + p = 10 + 8 * k + (2 + p) by omega]
  · rw [if_neg hj]
    unfold shS
    by_cases h : 10 ≤ j ∧ 2 ≤ (j - 10) % 8 ∧ ((j - 10) / 8 < k ∨ ((j - 10) / 8 = k ∧ (j - 10) % 8 - 2 < p))
    · rw [if_pos h, if_pos (by omega)]
    · rw [if_neg h, if_neg (by omega)]
theorem llM_congr {s t : Int → Int} {b : Int} (hb : 0 ≤ b) (h : ∀ j, 138 ≤ j → s j = t j) : llM s b = llM t b := by
  unfold llM
  refine fnd_congr (fun o h0 h1 => ?_)
  unfold mf mb
  rw [h _ (by omega)]
  constructor
  · intro z; exact ⟨z.1, fun c c0 c1 => by rw [← h _ (by omega), ← h _ (by omega)]; exact z.2 c c0 c1⟩
  · intro z; exact ⟨z.1, fun c c0 c1 => by rw [h _ (by omega), h _ (by omega)]; exact z.2 c c0 c1⟩
theorem shS_L {s : Int → Int} {n : Int} (hL : ∀ k p, 0 ≤ k → k < 16 → 0 ≤ p → p < 6 → 0 ≤ mo s k (2 + p) ∧ mo s k (2 + p) < 40) (hU : ∀ k p, 0 ≤ k → k < n → 0 ≤ p → p < 6 → mf s (mo s k (2 + p)) = 1) : ∀ k p, 0 ≤ k → k < 16 → 0 ≤ p → p < 6 → 0 ≤ mo (shS s n 0) k (2 + p) ∧ mo (shS s n 0) k (2 + p) < 40 := by
  intro k p k0 k1 p0 p1
  have hl := hL k p k0 k1 p0 p1
  by_cases hk : k < n
  · have e : mo (shS s n 0) k (2 + p) = llM s (mo s k (2 + p)) := by
      unfold mo; exact if_pos (by omega)
    have := llM_c s (mo s k (2 + p)) (by omega) (by omega) (hU k p k0 hk p0 p1)
    rw [e]; omega
  · have e : mo (shS s n 0) k (2 + p) = mo s k (2 + p) := by
      unfold mo; exact if_neg (by omega)
    rw [e]; exact hl
/-- the slot of a state that stands in a slot is there -/
theorem mS_at {s : Int → Int} {k : Int} (h0 : 0 ≤ k) (h1 : k < s 0) : 0 ≤ mS s (mo s k 0) ∧ mS s (mo s k 0) < s 0 := by
  rcases fnd_c (s 0) (fun j => mo s j 0 = mo s k 0) with ⟨_, h⟩ | ⟨z0, z1, _, _⟩
  · exact absurd rfl (h k h0 h1)
  · exact ⟨z0, z1⟩
/-- the most of a row of values, and what stands with the first of them -/
def hvM (f : Int → Int) : Nat → Int
  | 0 => -1
  | k + 1 => if hvM f k < f (k : Int) then f (k : Int) else hvM f k
def hvS (f g : Int → Int) : Nat → Int
  | 0 => -1000004
  | k + 1 => if hvM f k < f (k : Int) then g (k : Int) else hvS f g k
theorem hvM_s {f : Int → Int} {k : Int} (hk : 0 ≤ k) : hvM f (k + 1).toNat = if hvM f k.toNat < f k then f k else hvM f k.toNat := by
  obtain ⟨n, rfl⟩ := Int.eq_ofNat_of_zero_le hk
  rfl
theorem hvS_s {f g : Int → Int} {k : Int} (hk : 0 ≤ k) : hvS f g (k + 1).toNat = if hvM f k.toNat < f k then g k else hvS f g k.toNat := by
  obtain ⟨n, rfl⟩ := Int.eq_ofNat_of_zero_le hk
  rfl
theorem cp_cp {s h : Int → Int} : cpI s (cpI s h 0 0 498) 0 0 498 = cpI s h 0 0 498 := by
  funext j
  unfold cpI
  by_cases hj : 0 ≤ j ∧ j < 0 + 498
  · rw [if_pos hj, if_pos hj]
  · rw [if_neg hj, if_neg hj]
/-- what would be freed by each state, or -1 -/
noncomputable def frS (s : Int → Int) (x : Int) : Int → Int := fgM s x (mo s (mS s x) 1) (mS s x) (s 0)
noncomputable def frV (s : Int → Int) (k : Int) : Int := @ite _ (0 < mo s k 0 ∧ ∀ d, 0 ≤ d → d < 4 → ¬ mh s d = mo s k 0) (Classical.propDecidable _) (sm 40 (fun b => b2i (mf (frS s (mo s k 0)) b = 1 ∧ pwM (frS s (mo s k 0)) b = 0))) (-1)
theorem frV_bd (s : Int → Int) (k : Int) : -1 ≤ frV s k ∧ frV s k ≤ 40 := by
  have h := sm_b2i_bd (n := 40) (p := fun b => mf (frS s (mo s k 0)) b = 1 ∧ pwM (frS s (mo s k 0)) b = 0) (by omega)
  unfold frV
  split
  · omega
  · omega
/-- the text is read: a digit stands there; what digits say; how many stand there, three at most -/
def dgA (t : Int → Int) (len i : Int) : Prop := i < len ∧ 48 ≤ t i ∧ t i ≤ 57
def nmV (t : Int → Int) (f : Int) : Nat → Int
  | 0 => 0
  | k + 1 => 10 * nmV t f k + t (f + (k : Int)) - 48
theorem nmV_s {t : Int → Int} {f d : Int} (h : 0 ≤ d) : nmV t f (d + 1).toNat = 10 * nmV t f d.toNat + t (f + d) - 48 := by
  obtain ⟨n, rfl⟩ := Int.eq_ofNat_of_zero_le h
  rfl
def DGm (t : Int → Int) (len f d : Int) : Prop := 0 ≤ d ∧ d ≤ 3 ∧ (∀ j, 0 ≤ j → j < d → dgA t len (f + j)) ∧ (d = 3 ∨ ¬ dgA t len (f + d))
def nmW (V : Vt) (q d : Int) : Vt := up (up V 22 0 (updI (V 22 0) q (nmV (V 20 0) (V 16 0 8) d.toNat))) 16 0 (updI (V 16 0) 8 (V 16 0 8 + d))
theorem updI_id0 {f : Int → Int} {i : Int} : updI f i (f i + 0) = f := by
  funext j; unfold updI
  by_cases h : j = i
  · rw [if_pos h, h, Int.add_zero]
  · rw [if_neg h]
theorem nm_0 {V : Vt} {q : Int} : up V 22 0 (updI (V 22 0) q 0) = nmW V q 0 := by
  unfold nmW
  rw [updI_id0]
  exact (up_self (V := up V 22 0 (updI (V 22 0) q 0)) (r := 16) (w := 0)).symm
theorem up4 {V : Vt} {a b c d : Int → Int} : up (up (up (up V 22 0 a) 16 0 b) 22 0 c) 16 0 d = up (up V 22 0 c) 16 0 d := by
  funext r w
  by_cases h1 : r = 16 ∧ w = 0
  · obtain ⟨rfl, rfl⟩ := h1; rw [up_s, up_s]
  · rw [up_o h1, up_o h1]
    by_cases h2 : r = 22 ∧ w = 0
    · obtain ⟨rfl, rfl⟩ := h2; rw [up_s, up_s]
    · rw [up_o h2, up_o h1, up_o h2, up_o h2]
theorem updI_2 {f : Int → Int} {i x y : Int} : updI (updI f i x) i y = updI f i y := by
  funext j; unfold updI
  by_cases h : j = i
  · rw [if_pos h, if_pos h]
  · rw [if_neg h, if_neg h, if_neg h]
theorem nm_s {V : Vt} {q d : Int} (hd : 0 ≤ d) : up (up (nmW V q d) 22 0 (updI (updI (V 22 0) q (nmV (V 20 0) (V 16 0 8) d.toNat)) q (10 * nmV (V 20 0) (V 16 0 8) d.toNat + V 20 0 (V 16 0 8 + d) - 48))) 16 0 (updI (updI (V 16 0) 8 (V 16 0 8 + d)) 8 (V 16 0 8 + d + 1)) = nmW V q (d + 1) := by
  unfold nmW
  rw [updI_2, updI_2, up4, nmV_s hd, Int.add_assoc]
/-- an order is read: its sign, how many numbers it has, the numbers one after another -/
def nbO (x : Int) : Int := if x = 119 then 3 else if x = 102 then 4 else if x = 109 then 2 else if x = 98 ∨ x = 120 then 1 else 0
theorem nbO_bd (x : Int) : 0 ≤ nbO x ∧ nbO x ≤ 4 := by
  unfold nbO; omega
def rdC (V : Vt) : Int := if V 16 0 8 < V 16 0 6 ∧ 33 ≤ V 20 0 (V 16 0 8) ∧ V 20 0 (V 16 0 8) ≤ 126 then V 20 0 (V 16 0 8) else 0
def RdN (t : Int → Int) (len f0 : Int) (w0 : Int → Int) : Nat → Int → Int → (Int → Int) → Prop
  | 0, ok, f, w => ∃ d, DGm t len f0 d ∧ ok = b2i (0 < d) ∧ f = f0 + d ∧ w = updI w0 0 (nmV t f0 d.toNat)
  | k + 1, ok, f, w => ∃ f' w', RdN t len f0 w0 k 1 f' w' ∧ (((f' < len ∧ 44 ≤ t f' ∧ t f' ≤ 44) ∧ ∃ d, DGm t len (f' + 1) d ∧ ok = b2i (0 < d) ∧ f = f' + 1 + d ∧ w = updI w' ((k : Int) + 1) (nmV t (f' + 1) d.toNat)) ∨ (¬ (f' < len ∧ 44 ≤ t f' ∧ t f' ≤ 44) ∧ ok = 0 ∧ f = f' ∧ w = w'))
def RdI (t : Int → Int) (len f0 : Int) (w0 : Int → Int) (i ok f : Int) (w : Int → Int) : Prop := RdN t len f0 w0 (i - 1).toNat ok f w
theorem RdI.first {t : Int → Int} {len f0 : Int} {w0 : Int → Int} {d : Int} (h : DGm t len f0 d) : RdI t len f0 w0 1 (b2i (0 < d)) (f0 + d) (updI w0 0 (nmV t f0 d.toNat)) := ⟨d, h, rfl, rfl, rfl⟩
theorem RdI.step {t : Int → Int} {len f0 : Int} {w0 : Int → Int} {i f : Int} {w : Int → Int} {d : Int} (hi : 1 ≤ i) (h : RdI t len f0 w0 i 1 f w) (hs : f < len ∧ 44 ≤ t f ∧ t f ≤ 44) (hd : DGm t len (f + 1) d) : RdI t len f0 w0 (i + 1) (b2i (0 < d)) (f + 1 + d) (updI w i (nmV t (f + 1) d.toNat)) := by
  unfold RdI at h ⊢
  rw [show (i + 1 - 1).toNat = (i - 1).toNat + 1 by omega]
  refine ⟨f, w, h, Or.inl ⟨hs, d, hd, rfl, rfl, ?_⟩⟩
  rw [show (((i - 1).toNat : Nat) : Int) + 1 = i by omega]
theorem RdI.nosep {t : Int → Int} {len f0 : Int} {w0 : Int → Int} {i f : Int} {w : Int → Int} (hi : 1 ≤ i) (h : RdI t len f0 w0 i 1 f w) (hs : ¬ (f < len ∧ 44 ≤ t f ∧ t f ≤ 44)) : RdI t len f0 w0 (i + 1) 0 f w := by
  unfold RdI at h ⊢
  rw [show (i + 1 - 1).toNat = (i - 1).toNat + 1 by omega]
  exact ⟨f, w, h, Or.inr ⟨hs, rfl, rfl, rfl⟩⟩
def rdW (V : Vt) (w : Int → Int) (f : Int) : Vt := up (up V 22 0 w) 16 0 (updI (updI (V 16 0) 13 (rdC V)) 8 f)
theorem rdW_n {V : Vt} {w : Int → Int} {f q d : Int} : nmW (rdW V w f) q d = rdW V (updI w q (nmV (V 20 0) f d.toNat)) (f + d) := by
  have e : (rdW V w f) 16 0 8 = f := by
    unfold rdW; rw [up_s]; exact if_pos rfl
  unfold nmW
  rw [e]
  unfold rdW
  rw [up_s, up4, updI_2]
  rfl
theorem rdW_p {V : Vt} {w : Int → Int} {f g : Int} : up (rdW V w f) 16 0 (updI ((rdW V w f) 16 0) 8 g) = rdW V w g := by
  unfold rdW
  rw [up_s, updI_2, upup]
theorem rdW_i {V : Vt} {f : Int} : up (up V 16 0 (updI (V 16 0) 13 (rdC V))) 16 0 (updI (updI (V 16 0) 13 (rdC V)) 8 f) = rdW V (V 22 0) f := by
  unfold rdW
  rw [upup, up_self]
theorem rdW_8 {V : Vt} {w : Int → Int} {f : Int} : (rdW V w f) 16 0 8 = f := by
  unfold rdW; rw [up_s]; exact if_pos rfl
theorem RdI.to {t : Int → Int} {len f0 : Int} {w0 : Int → Int} {i a b f : Int} {w : Int → Int} (h : RdI t len f0 w0 i a f w) (e : a = b) : RdI t len f0 w0 i b f w := e ▸ h
def shN (t : Int → Int) (len f : Int) : Int := if f < len then t f else -1
theorem shN_c (t : Int → Int) (len f : Int) : (f < len ∧ shN t len f = t f) ∨ (¬ f < len ∧ shN t len f = -1) := by
  by_cases h : f < len
  · exact Or.inl ⟨h, if_pos h⟩
  · exact Or.inr ⟨h, if_neg h⟩
