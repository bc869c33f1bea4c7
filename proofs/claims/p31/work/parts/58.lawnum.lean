/-! ===== the law's numbers: blocks in a row of six, cells in a long ===== -/
def rD (x p : Int) : Int := x / 2 ^ (6 * p).toNat % 64
def cD (x c : Int) : Int := x / 2 ^ (10 * c).toNat % 1024
def cB (a b c : Int) : Int := if c < 6 then cD a c else cD b (c - 6)
theorem mdR {x q : Int} (h0 : 0 < q) (h1 : q ≤ 2147483647) : inR (x % q) := by
  have a := Int.emod_nonneg x (b := q) (by omega)
  have b := Int.emod_lt_of_pos x h0
  omega
theorem rD_bd {x p : Int} : 0 ≤ rD x p ∧ rD x p < 64 := by unfold rD; omega
theorem cD_bd {x c : Int} : 0 ≤ cD x c ∧ cD x c < 1024 := by unfold cD; omega
theorem cB_bd {a b c : Int} : 0 ≤ cB a b c ∧ cB a b c < 1024 := by unfold cB; split <;> exact cD_bd
theorem p6_0 : (2 : Int) ^ (6 * (0 : Int)).toNat = 1 := by decide +kernel
theorem p6_1 : (2 : Int) ^ (6 * (1 : Int)).toNat = 64 := by decide +kernel
theorem p6_2 : (2 : Int) ^ (6 * (2 : Int)).toNat = 4096 := by decide +kernel
theorem p6_3 : (2 : Int) ^ (6 * (3 : Int)).toNat = 262144 := by decide +kernel
theorem p6_4 : (2 : Int) ^ (6 * (4 : Int)).toNat = 16777216 := by decide +kernel
theorem p6_5 : (2 : Int) ^ (6 * (5 : Int)).toNat = 1073741824 := by decide +kernel
theorem p6_6 : (2 : Int) ^ (6 * (6 : Int)).toNat = 68719476736 := by decide +kernel
theorem p10_0 : (2 : Int) ^ (10 * (0 : Int)).toNat = 1 := by decide +kernel
theorem p10_1 : (2 : Int) ^ (10 * (1 : Int)).toNat = 1024 := by decide +kernel
theorem p10_2 : (2 : Int) ^ (10 * (2 : Int)).toNat = 1048576 := by decide +kernel
theorem p10_3 : (2 : Int) ^ (10 * (3 : Int)).toNat = 1073741824 := by decide +kernel
theorem p10_4 : (2 : Int) ^ (10 * (4 : Int)).toNat = 1099511627776 := by decide +kernel
theorem p10_5 : (2 : Int) ^ (10 * (5 : Int)).toNat = 1125899906842624 := by decide +kernel
theorem i6 {p : Int} (h0 : 0 ≤ p) (h1 : p < 6) : p = 0 ∨ p = 1 ∨ p = 2 ∨ p = 3 ∨ p = 4 ∨ p = 5 := by omega
/-- a new block's number is put above a row's -/
theorem rD_bel {x a p q : Int} (hx : 0 ≤ x) (p0 : 0 ≤ p) (p1 : p < 6) (q0 : 0 ≤ q) (q1 : q < p) : rD (x + a * 2 ^ (6 * p).toNat) q = rD x q := by
  unfold rD
  rcases i6 p0 p1 with rfl | rfl | rfl | rfl | rfl | rfl <;> rcases i6 q0 (by omega) with rfl | rfl | rfl | rfl | rfl | rfl
  all_goals simp only [p6_0, p6_1, p6_2, p6_3, p6_4, p6_5]
  all_goals omega
theorem rD_new {x a p : Int} (hx : 0 ≤ x) (hx1 : x < 2 ^ (6 * p).toNat) (p0 : 0 ≤ p) (p1 : p < 6) (a0 : 0 ≤ a) (a1 : a < 64) : rD (x + a * 2 ^ (6 * p).toNat) p = a := by
  unfold rD
  rcases i6 p0 p1 with rfl | rfl | rfl | rfl | rfl | rfl
  all_goals simp only [p6_0, p6_1, p6_2, p6_3, p6_4, p6_5] at hx1 ⊢
  all_goals omega
theorem rD_row {x a p : Int} (hx : 0 ≤ x) (hx1 : x < 2 ^ (6 * p).toNat) (p0 : 0 ≤ p) (p1 : p < 6) (a0 : 0 ≤ a) (a1 : a < 64) : 0 ≤ x + a * 2 ^ (6 * p).toNat ∧ x + a * 2 ^ (6 * p).toNat < 2 ^ (6 * (p + 1)).toNat ∧ x + a * 2 ^ (6 * p).toNat < 68719476736 := by
  rcases i6 p0 p1 with rfl | rfl | rfl | rfl | rfl | rfl
  · rw [show (0 : Int) + 1 = 1 from rfl]; simp only [p6_0, p6_1] at hx1 ⊢; omega
  · rw [show (1 : Int) + 1 = 2 from rfl]; simp only [p6_1, p6_2] at hx1 ⊢; omega
  · rw [show (2 : Int) + 1 = 3 from rfl]; simp only [p6_2, p6_3] at hx1 ⊢; omega
  · rw [show (3 : Int) + 1 = 4 from rfl]; simp only [p6_3, p6_4] at hx1 ⊢; omega
  · rw [show (4 : Int) + 1 = 5 from rfl]; simp only [p6_4, p6_5] at hx1 ⊢; omega
  · rw [show (5 : Int) + 1 = 6 from rfl]; simp only [p6_5, p6_6] at hx1 ⊢; omega
/-- cells packed, the first one lowest -/
def pkL (f : Int → Int) (a : Int) : Nat → Int
  | 0 => 0
  | n + 1 => 1024 * pkL f (a + 1) n + f a
theorem pkL_bdN {f : Int → Int} : ∀ (n : Nat) (a : Int), (∀ i, a ≤ i → i < a + n → 0 ≤ f i ∧ f i < 1024) → 0 ≤ pkL f a n ∧ pkL f a n < 1024 ^ n
  | 0, a, h => by unfold pkL; decide
  | n + 1, a, h => by
    have ih := pkL_bdN n (a + 1) (fun i h0 h1 => h i (by omega) (by omega))
    have h0 := h a (by omega) (by omega)
    have e : (1024 : Int) ^ (n + 1) = 1024 * 1024 ^ n := by rw [Int.pow_succ, Int.mul_comm]
    show 0 ≤ 1024 * pkL f (a + 1) n + f a ∧ 1024 * pkL f (a + 1) n + f a < 1024 ^ (n + 1)
    rw [e]; omega
theorem pk6_e {f : Int → Int} {a : Int} : pkL f a 6 = 1024 * (1024 * (1024 * (1024 * (1024 * (1024 * 0 + f (a + 5)) + f (a + 4)) + f (a + 3)) + f (a + 2)) + f (a + 1)) + f a := by
  have e2 : a + 1 + 1 = a + 2 := by omega
  have e3 : a + 2 + 1 = a + 3 := by omega
  have e4 : a + 3 + 1 = a + 4 := by omega
  have e5 : a + 4 + 1 = a + 5 := by omega
  simp only [pkL, e2, e3, e4, e5]
theorem pk2_e {f : Int → Int} {a : Int} : pkL f a 2 = 1024 * (1024 * 0 + f (a + 1)) + f a := rfl
theorem pk6_bd {f : Int → Int} {a : Int} (h : ∀ i, a ≤ i → i < a + 6 → 0 ≤ f i ∧ f i < 1024) : 0 ≤ pkL f a 6 ∧ pkL f a 6 < 1152921504606846976 := by
  have := pkL_bdN 6 a h
  exact ⟨this.1, Int.lt_of_lt_of_le this.2 (by decide +kernel)⟩
theorem pk2_bd {f : Int → Int} {a : Int} (h : ∀ i, a ≤ i → i < a + 2 → 0 ≤ f i ∧ f i < 1024) : 0 ≤ pkL f a 2 ∧ pkL f a 2 < 1048576 := by
  have := pkL_bdN 2 a h
  exact ⟨this.1, Int.lt_of_lt_of_le this.2 (by decide +kernel)⟩
theorem pk6_at {f : Int → Int} {a c : Int} (h : ∀ i, a ≤ i → i < a + 6 → 0 ≤ f i ∧ f i < 1024) (c0 : 0 ≤ c) (c1 : c < 6) : cD (pkL f a 6) c = f (a + c) := by
  have h0 := h a (by omega) (by omega)
  have h1 := h (a + 1) (by omega) (by omega)
  have h2 := h (a + 2) (by omega) (by omega)
  have h3 := h (a + 3) (by omega) (by omega)
  have h4 := h (a + 4) (by omega) (by omega)
  have h5 := h (a + 5) (by omega) (by omega)
  rw [pk6_e]
  unfold cD
  rcases i6 c0 c1 with rfl | rfl | rfl | rfl | rfl | rfl
  all_goals simp only [p10_0, p10_1, p10_2, p10_3, p10_4, p10_5, Int.add_zero]
  all_goals omega
theorem pk2_at {f : Int → Int} {a c : Int} (h : ∀ i, a ≤ i → i < a + 2 → 0 ≤ f i ∧ f i < 1024) (c0 : 0 ≤ c) (c1 : c < 2) : cD (pkL f a 2) c = f (a + c) := by
  have h0 := h a (by omega) (by omega)
  have h1 := h (a + 1) (by omega) (by omega)
  rw [pk2_e]
  unfold cD
  rcases (show c = 0 ∨ c = 1 by omega) with rfl | rfl
  all_goals simp only [p10_0, p10_1, Int.add_zero]
  all_goals omega
/-- a long is its digits -/
theorem cD_ex {x : Int} (h0 : 0 ≤ x) (h1 : x < 1152921504606846976) : x = 1024 * (1024 * (1024 * (1024 * (1024 * cD x 5 + cD x 4) + cD x 3) + cD x 2) + cD x 1) + cD x 0 := by
  unfold cD
  simp only [p10_0, p10_1, p10_2, p10_3, p10_4, p10_5]
  have e2 : x / 1048576 = x / 1024 / 1024 := by omega
  have e3 : x / 1073741824 = x / 1048576 / 1024 := by omega
  have e4 : x / 1099511627776 = x / 1073741824 / 1024 := by omega
  have e5 : x / 1125899906842624 = x / 1099511627776 / 1024 := by omega
  generalize x / 1125899906842624 = x5 at *
  generalize x / 1099511627776 = x4 at *
  generalize x / 1073741824 = x3 at *
  generalize x / 1048576 = x2 at *
  omega
theorem cD_ex2 {x : Int} (h0 : 0 ≤ x) (h1 : x < 1048576) : x = 1024 * cD x 1 + cD x 0 := by
  unfold cD
  simp only [p10_0, p10_1]
  omega
theorem cD_inj {x y : Int} (h0 : 0 ≤ x) (h1 : x < 1152921504606846976) (g0 : 0 ≤ y) (g1 : y < 1152921504606846976) (h : ∀ c, 0 ≤ c → c < 6 → cD x c = cD y c) : x = y := by
  rw [cD_ex h0 h1, cD_ex g0 g1, h 0 (by omega) (by omega), h 1 (by omega) (by omega), h 2 (by omega) (by omega), h 3 (by omega) (by omega), h 4 (by omega) (by omega), h 5 (by omega) (by omega)]
theorem cD_inj2 {x y : Int} (h0 : 0 ≤ x) (h1 : x < 1048576) (g0 : 0 ≤ y) (g1 : y < 1048576) (h : ∀ c, 0 ≤ c → c < 2 → cD x c = cD y c) : x = y := by
  rw [cD_ex2 h0 h1, cD_ex2 g0 g1, h 0 (by omega) (by omega), h 1 (by omega) (by omega)]
/-- two blocks' longs are the same where their cells are -/
theorem cB_inj {a b a' b' : Int} (h0 : 0 ≤ a) (h1 : a < 1152921504606846976) (g0 : 0 ≤ a') (g1 : a' < 1152921504606846976) (k0 : 0 ≤ b) (k1 : b < 1048576) (l0 : 0 ≤ b') (l1 : b' < 1048576) : (a = a' ∧ b = b') ↔ ∀ c, 0 ≤ c → c < 8 → cB a b c = cB a' b' c := by
  constructor
  · rintro ⟨rfl, rfl⟩ c _ _; rfl
  · intro h
    refine ⟨cD_inj h0 h1 g0 g1 (fun c c0 c1 => ?_), cD_inj2 k0 k1 l0 l1 (fun c c0 c1 => ?_)⟩
    · have := h c c0 (by omega)
      unfold cB at this
      rwa [if_pos c1, if_pos c1] at this
    · have := h (c + 6) (by omega) (by omega)
      unfold cB at this
      rwa [if_neg (by omega), if_neg (by omega), show c + 6 - 6 = c by omega] at this
theorem cB_pk {f : Int → Int} {a c : Int} (h : ∀ i, a ≤ i → i < a + 8 → 0 ≤ f i ∧ f i < 1024) (c0 : 0 ≤ c) (c1 : c < 8) : cB (pkL f a 6) (pkL f (a + 6) 2) c = f (a + c) := by
  unfold cB
  split
  · exact pk6_at (fun i h0 h1 => h i (by omega) (by omega)) c0 (by assumption)
  · rw [pk2_at (fun i h0 h1 => h i (by omega) (by omega)) (by omega) (by omega)]
    congr 1; omega
/-- the law's blocks say the same as the numbers -/
def LB (A B s : Int → Int) : Prop := ∀ d, 0 ≤ d → d < 40 → (mf s d = 1 ∧ 0 ≤ B d ∧ ∀ c, 0 ≤ c → c < 8 → cB (A d) (B d) c = mb s d c) ∨ (mf s d = 0 ∧ B d < 0)
def LVa (A : Int → Int) : Prop := ∀ j, 0 ≤ A j ∧ A j < 1152921504606846976
def LVb (B : Int → Int) : Prop := ∀ j, -1 ≤ B j ∧ B j < 1048576
def LVr (R : Int → Int) : Prop := ∀ j, (0 ≤ R j ∧ R j < 68719476736) ∧ ∀ p, 0 ≤ p → p < 6 → rD (R j) p < 40
theorem LB.t {A B s : Int → Int} (h : LB A B s) {d : Int} (d0 : 0 ≤ d) (d1 : d < 40) (hd : mf s d = 1) : 0 ≤ B d ∧ ∀ c, 0 ≤ c → c < 8 → cB (A d) (B d) c = mb s d c := by
  rcases h d d0 d1 with z | z
  · exact z.2
  · omega
theorem LB.iff {A B s : Int → Int} (h : LB A B s) {d : Int} (d0 : 0 ≤ d) (d1 : d < 40) : 0 ≤ B d ↔ mf s d = 1 := by
  rcases h d d0 d1 with z | z <;> omega
/-- a block's longs are those of eight cells where its cells are -/
theorem LB.eq {A B s ce : Int → Int} (h : LB A B s) (hA : LVa A) (hB : LVb B) {d a : Int} (d0 : 0 ≤ d) (d1 : d < 40) (hd : mf s d = 1) (hc : ∀ i, a ≤ i → i < a + 8 → 0 ≤ ce i ∧ ce i < 1024) : (A d = pkL ce a 6 ∧ B d = pkL ce (a + 6) 2) ↔ ∀ c, 0 ≤ c → c < 8 → mb s d c = ce (a + c) := by
  have ht := h.t d0 d1 hd
  have p6 := pk6_bd (f := ce) (a := a) (fun i h0 h1 => hc i h0 (by omega))
  have p2 := pk2_bd (f := ce) (a := a + 6) (fun i h0 h1 => hc i (by omega) (by omega))
  rw [cB_inj (hA d).1 (hA d).2 p6.1 p6.2 ht.1 (hB d).2 p2.1 p2.2]
  constructor
  · intro z c c0 c1
    rw [← ht.2 c c0 c1, z c c0 c1, cB_pk hc c0 c1]
  · intro z c c0 c1
    rw [ht.2 c c0 c1, z c c0 c1, cB_pk hc c0 c1]
theorem LB.eq2 {A B s : Int → Int} (h : LB A B s) (hA : LVa A) (hB : LVb B) {d o : Int} (d0 : 0 ≤ d) (d1 : d < 40) (hd : mf s d = 1) (o0 : 0 ≤ o) (o1 : o < 40) (ho : mf s o = 1) : (A d = A o ∧ B d = B o) ↔ ∀ c, 0 ≤ c → c < 8 → mb s d c = mb s o c := by
  have ht := h.t d0 d1 hd
  have hu := h.t o0 o1 ho
  rw [cB_inj (hA d).1 (hA d).2 (hA o).1 (hA o).2 ht.1 (hB d).2 hu.1 (hB o).2]
  constructor
  · intro z c c0 c1
    rw [← ht.2 c c0 c1, z c c0 c1, hu.2 c c0 c1]
  · intro z c c0 c1
    rw [ht.2 c c0 c1, z c c0 c1, hu.2 c c0 c1]
/-- the law's search for a block -/
noncomputable def lkF (A B : Int → Int) (low high bt : Int) : Int := fnd 40 (fun k => 0 ≤ B k ∧ A k = low ∧ B k = high ∧ k ≠ bt)
theorem lkF_bd {A B : Int → Int} {low high bt : Int} : -1 ≤ lkF A B low high bt ∧ lkF A B low high bt < 40 := fnd_bd 40 _ (by omega)
theorem LB.fd {A B s ce : Int → Int} (h : LB A B s) (hA : LVa A) (hB : LVb B) {p : Int} (hc : ∀ i, 8 * p ≤ i → i < 8 * p + 8 → 0 ≤ ce i ∧ ce i < 1024) : lkF A B (pkL ce (8 * p) 6) (pkL ce (8 * p + 6) 2) (-1) = FDm s ce p := by
  unfold lkF FDm
  refine fnd_congr (fun d d0 d1 => ?_)
  constructor
  · rintro ⟨z0, z1, z2, _⟩
    have hd := (h.iff d0 d1).mp z0
    exact ⟨d0, by omega, hd, (h.eq hA hB d0 d1 hd hc).mp ⟨z1, z2⟩⟩
  · rintro ⟨_, _, hd, z⟩
    have q := (h.eq hA hB d0 d1 hd hc).mpr z
    exact ⟨(h.iff d0 d1).mpr hd, q.1, q.2, by omega⟩
theorem LB.ll {A B s : Int → Int} (h : LB A B s) (hA : LVa A) (hB : LVb B) {o : Int} (o0 : 0 ≤ o) (o1 : o < 40) (ho : mf s o = 1) : lkF A B (A o) (B o) (-1) = llM s o := by
  unfold lkF llM
  refine fnd_congr (fun d d0 d1 => ?_)
  constructor
  · rintro ⟨z0, z1, z2, _⟩
    have hd := (h.iff d0 d1).mp z0
    exact ⟨hd, (h.eq2 hA hB d0 d1 hd o0 o1 ho).mp ⟨z1, z2⟩⟩
  · rintro ⟨hd, z⟩
    have q := (h.eq2 hA hB d0 d1 hd o0 o1 ho).mpr z
    exact ⟨(h.iff d0 d1).mpr hd, q.1, q.2, by omega⟩
/-- how many places, or states, have a block -/
def usK (st x : Int) : Int := if st = 1 ∧ 1 < x then 1 else x
noncomputable def lU (n : Int) (R : Int → Int) (st b : Int) : Int := sm n (fun k => usK st (sm 6 (fun p => b2i (rD (R k) p = b))))
theorem usK_0 {x : Int} : usK 0 x = x := if_neg (by omega)
theorem usK_1 {p : Int → Prop} : usK 1 (sm 6 (fun q => b2i (p q))) = b2i (0 < sm 6 (fun q => b2i (p q))) := by
  have h := sm_b2i_bd (n := 6) (p := p) (by omega)
  unfold usK
  by_cases z : 1 < sm 6 (fun q => b2i (p q))
  · rw [if_pos ⟨rfl, z⟩, b2i_t (by omega)]
  · rw [if_neg (fun q => z q.2)]
    by_cases y : 0 < sm 6 (fun q => b2i (p q))
    · rw [b2i_t y]; omega
    · rw [b2i_f y]; omega
theorem usK_bd {st : Int} {p : Int → Prop} : 0 ≤ usK st (sm 6 (fun q => b2i (p q))) ∧ usK st (sm 6 (fun q => b2i (p q))) ≤ 6 := by
  have h := sm_b2i_bd (n := 6) (p := p) (by omega)
  unfold usK
  split <;> omega
theorem lU_bd {n : Int} {R : Int → Int} {st b : Int} (h0 : 0 ≤ n) (h1 : n ≤ 16) : 0 ≤ lU n R st b ∧ lU n R st b ≤ 96 := by
  have := sm_bd (n := n) (f := fun k => usK st (sm 6 (fun p => b2i (rD (R k) p = b)))) 6 h0 (fun j _ _ => usK_bd)
  unfold lU; omega
/-- blocks that nothing uses are taken away -/
noncomputable def swB (n : Int) (R B : Int → Int) (m : Int) : Int → Int := fun j => @ite _ (0 ≤ j ∧ j < m ∧ 0 ≤ B j ∧ lU n R 0 j = 0) (Classical.propDecidable _) (-1) (B j)
theorem swB_0 {n : Int} {R B : Int → Int} : swB n R B 0 = B := by
  funext j; exact if_neg (fun z => by omega)
theorem swB_k {n m : Int} {R B : Int → Int} : swB n R B m m = B m := if_neg (fun z => by omega)
theorem swB_t {n m : Int} {R B : Int → Int} (m0 : 0 ≤ m) (h1 : 0 ≤ B m) (h2 : lU n R 0 m = 0) : updI (swB n R B m) m (-1) = swB n R B (m + 1) := by
  funext j
  unfold updI swB
  by_cases hj : j = m
  · subst hj; rw [if_pos rfl, if_pos ⟨m0, by omega, h1, h2⟩]
  · rw [if_neg hj]
    by_cases h : 0 ≤ j ∧ j < m ∧ 0 ≤ B j ∧ lU n R 0 j = 0
    · rw [if_pos h, if_pos ⟨h.1, by omega, h.2.2⟩]
    · rw [if_neg h, if_neg (fun z => h ⟨z.1, by omega, z.2.2⟩)]
theorem swB_f {n m : Int} {R B : Int → Int} (h : ¬ (0 ≤ B m ∧ lU n R 0 m = 0)) : swB n R B m = swB n R B (m + 1) := by
  funext j
  unfold swB
  by_cases g : 0 ≤ j ∧ j < m ∧ 0 ≤ B j ∧ lU n R 0 j = 0
  · rw [if_pos g, if_pos ⟨g.1, by omega, g.2.2⟩]
  · rw [if_neg g, if_neg (fun z => by
      rcases Int.lt_or_le j m with q | q
      · exact g ⟨z.1, q, z.2.2⟩
      · have e : j = m := by omega
        subst e; exact h z.2.2)]
theorem swB_b {n m : Int} {R B : Int → Int} (h : LVb B) : LVb (swB n R B m) := fun j => by
  unfold swB
  split
  · omega
  · exact h j
/-- the law's numbers say the same as the numbers s -/
def LN (V : Vt) (s : Int → Int) : Prop := (∀ j, 0 ≤ j → j < 6 → V 16 0 j = s j) ∧ (∀ b, 0 ≤ b → b < 4 → V 17 0 b = mh s b) ∧ (∀ k, 0 ≤ k → k < s 0 → V 18 0 k = mo s k 0 ∧ V 19 0 k = mo s k 1) ∧
  (∀ k p, 0 ≤ k → k < s 0 → 0 ≤ p → p < 6 → rD (V 20 0 k) p = mo s k (2 + p)) ∧ LB (V 21 0) (V 22 0) s ∧ LVr (V 20 0) ∧ LVa (V 21 0) ∧ LVb (V 22 0)
section LNs
variable {V : Vt} {s : Int → Int}
theorem LN.g (h : LN V s) : ∀ j, 0 ≤ j → j < 6 → V 16 0 j = s j := h.1
theorem LN.g0 (h : LN V s) : V 16 0 0 = s 0 := h.1 0 (by omega) (by omega)
theorem LN.h (h : LN V s) : ∀ b, 0 ≤ b → b < 4 → V 17 0 b = mh s b := h.2.1
theorem LN.n (h : LN V s) : ∀ k, 0 ≤ k → k < s 0 → V 18 0 k = mo s k 0 ∧ V 19 0 k = mo s k 1 := h.2.2.1
theorem LN.r (h : LN V s) : ∀ k p, 0 ≤ k → k < s 0 → 0 ≤ p → p < 6 → rD (V 20 0 k) p = mo s k (2 + p) := h.2.2.2.1
theorem LN.b (h : LN V s) : LB (V 21 0) (V 22 0) s := h.2.2.2.2.1
theorem LN.vr (h : LN V s) : LVr (V 20 0) := h.2.2.2.2.2.1
theorem LN.va (h : LN V s) : LVa (V 21 0) := h.2.2.2.2.2.2.1
theorem LN.vb (h : LN V s) : LVb (V 22 0) := h.2.2.2.2.2.2.2
theorem LN.cg {V' : Vt} (h : LN V s) (e : ∀ r, 16 ≤ r → r ≤ 22 → V' r 0 = V r 0) : LN V' s := by
  unfold LN
  rw [e 16 (by omega) (by omega), e 17 (by omega) (by omega), e 18 (by omega) (by omega), e 19 (by omega) (by omega), e 20 (by omega) (by omega), e 21 (by omega) (by omega), e 22 (by omega) (by omega)]
  exact h
theorem LN.find (h : LN V s) (x : Int) : fnd (V 16 0 0) (fun k => V 18 0 k = x) = mS s x := by
  rw [h.g0]
  exact fnd_congr (fun j a b => by rw [(h.n j a b).1])
theorem LN.cell (h : LN V s) (hM : MV s) {k c : Int} (k0 : 0 ≤ k) (k1 : k < s 0) (c0 : 0 ≤ c) (c1 : c < 48) : cB (V 21 0 (rD (V 20 0 k) (c / 8))) (V 22 0 (rD (V 20 0 k) (c / 8))) (c % 8) = mc s k c := by
  have hz := hM.z
  have hl := hM.l k (c / 8) k0 (by omega) (by omega) (by omega)
  have hu := hM.u k (c / 8) k0 k1 (by omega) (by omega)
  rw [h.r k (c / 8) k0 k1 (by omega) (by omega), (h.b.t hl.1 hl.2 hu).2 (c % 8) (by omega) (by omega)]
  rfl
theorem LN.us (h : LN V s) (b : Int) : lU (V 16 0 0) (V 20 0) 0 b = pwM s b := by
  unfold lU pwM
  rw [h.g0]
  exact sm_congr (fun k k0 k1 => by rw [usK_0]; exact sm_congr (fun p p0 p1 => by rw [h.r k p k0 k1 p0 p1]))
theorem LN.us1 (h : LN V s) (b : Int) : lU (V 16 0 0) (V 20 0) 1 b = sm (s 0) (fun k => b2i (∃ p, 0 ≤ p ∧ p < 6 ∧ mo s k (2 + p) = b)) := by
  unfold lU
  rw [h.g0]
  exact sm_congr (fun k k0 k1 => by
    rw [usK_1]
    exact b2i_iff (by
      rw [sm_b2i_pos]
      constructor
      · rintro ⟨p, p0, p1, z⟩; exact ⟨p, p0, p1, by rw [← h.r k p k0 k1 p0 p1]; exact z⟩
      · rintro ⟨p, p0, p1, z⟩; exact ⟨p, p0, p1, by rw [h.r k p k0 k1 p0 p1]; exact z⟩))
end LNs
/-- a cell of 0 .. 47 of the numbers is small -/
theorem LN.mc_bd {V : Vt} {s : Int → Int} (h : LN V s) (hM : MV s) {k c : Int} (k0 : 0 ≤ k) (k1 : k < s 0) (c0 : 0 ≤ c) (c1 : c < 48) : 0 ≤ mc s k c ∧ mc s k c < 1024 := by
  rw [← h.cell hM k0 k1 c0 c1]
  exact cB_bd
theorem cB_t {a b c : Int} (h : c < 6) : cD a c = cB a b c := (if_pos h).symm
theorem cB_f {a b c : Int} (h : 6 ≤ c) : cD b (c - 6) = cB a b c := (if_neg (by omega)).symm
theorem us_s {m k hh q st x : Int} {R : Int → Int} {b : Int} (hs : m = sm k (fun k => usK st (sm 6 (fun p => b2i (rD (R k) p = b))))) (hi : hh = sm q (fun p => b2i (rD (R k) p = b))) (h6 : q = 6) (hk : 0 ≤ k) (hx : x = usK st hh) : m + x = sm (k + 1) (fun k => usK st (sm 6 (fun p => b2i (rD (R k) p = b)))) := by
  subst h6
  rw [sm_s hk, ← hs, hx, hi]
theorem lkF_y {A B : Int → Int} {low high bt k : Int} (h0 : 0 ≤ k) (h1 : k < 40) (h2 : 0 ≤ B k) (h3 : A k = low) (h4 : B k = high) (h5 : k ≠ bt) (hl : ∀ j, 0 ≤ j → j < k → ¬ (0 ≤ B j ∧ A j = low ∧ B j = high ∧ j ≠ bt)) : lkF A B low high bt = k := fnd_y h0 h1 ⟨h2, h3, h4, h5⟩ hl
theorem dv0 {x : Int} {n : Nat} (h : 0 ≤ x) : 0 ≤ x / 2 ^ n := Int.ediv_nonneg h (Int.le_of_lt (Int.pow_pos (by decide)))
