/-! ===== the reference's numbers alone: what holds of them, and that writes keep it ===== -/
theorem b2i_pos {p : Prop} : 0 < b2i p ↔ p := by
  rcases b2i_01 p with h | h
  · exact ⟨fun z => by omega, fun z => by rw [b2i_t z]; omega⟩
  · exact ⟨fun _ => b2i_eq1.mp h, fun _ => by omega⟩
theorem smN_nn {f : Int → Int} : ∀ n : Nat, (∀ j : Int, 0 ≤ j → j < n → 0 ≤ f j) → 0 ≤ smN f n
  | 0, _ => Int.le_refl _
  | n + 1, h => by
    have h1 := smN_nn n (fun j h0 h1 => h j h0 (by omega))
    have h2 := h n (by omega) (by omega)
    show 0 ≤ smN f n + f n
    omega
theorem sm_nn {n : Int} {f : Int → Int} (h : ∀ j : Int, 0 ≤ j → j < n → 0 ≤ f j) : 0 ≤ sm n f := smN_nn _ (fun j h0 h1 => h j h0 (by omega))
theorem smN_pos {f : Int → Int} : ∀ n : Nat, (∀ j : Int, 0 ≤ j → j < n → 0 ≤ f j) → (0 < smN f n ↔ ∃ j : Int, 0 ≤ j ∧ j < n ∧ 0 < f j)
  | 0, _ => ⟨fun h => absurd h (Int.lt_irrefl 0), fun ⟨j, h0, h1, _⟩ => by omega⟩
  | n + 1, h => by
    have ih := smN_pos n (fun j h0 h1 => h j h0 (by omega))
    have nn := smN_nn n (fun j h0 h1 => h j h0 (by omega))
    have hn := h n (by omega) (by omega)
    show 0 < smN f n + f n ↔ _
    constructor
    · intro q
      by_cases z : 0 < f n
      · exact ⟨n, by omega, by omega, z⟩
      · obtain ⟨j, h0, h1, h2⟩ := ih.mp (by omega)
        exact ⟨j, h0, by omega, h2⟩
    · rintro ⟨j, h0, h1, h2⟩
      rcases Int.lt_or_le j n with q | q
      · have := ih.mpr ⟨j, h0, q, h2⟩
        omega
      · have e : j = n := by omega
        rw [e] at h2
        omega
theorem sm_pos {n : Int} {f : Int → Int} (h : ∀ j : Int, 0 ≤ j → j < n → 0 ≤ f j) : 0 < sm n f ↔ ∃ j : Int, 0 ≤ j ∧ j < n ∧ 0 < f j := by
  unfold sm
  rw [smN_pos n.toNat (fun j h0 h1 => h j h0 (by omega))]
  exact ⟨fun ⟨j, a, b, c⟩ => ⟨j, a, by omega, c⟩, fun ⟨j, a, b, c⟩ => ⟨j, a, by omega, c⟩⟩
theorem sm_b2i_pos {n : Int} {p : Int → Prop} : 0 < sm n (fun j => b2i (p j)) ↔ ∃ j : Int, 0 ≤ j ∧ j < n ∧ p j := by
  rw [sm_pos (fun j _ _ => (b2i_b _).1)]
  exact ⟨fun ⟨j, a, b, c⟩ => ⟨j, a, b, b2i_pos.mp c⟩, fun ⟨j, a, b, c⟩ => ⟨j, a, b, b2i_pos.mpr c⟩⟩
theorem sm_b2i_0 {n : Int} {p : Int → Prop} : sm n (fun j => b2i (p j)) = 0 ↔ ∀ j : Int, 0 ≤ j → j < n → ¬ p j := by
  have h := sm_b2i_pos (n := n) (p := p)
  have h2 := sm_nn (n := n) (f := fun j => b2i (p j)) (fun j _ _ => (b2i_b _).1)
  constructor
  · intro z j a b c
    have := h.mpr ⟨j, a, b, c⟩
    omega
  · intro z
    rcases Int.lt_or_le 0 (sm n (fun j => b2i (p j))) with q | q
    · obtain ⟨j, a, b, c⟩ := h.mp q
      exact absurd c (z j a b)
    · omega
theorem smN_upd {f g : Int → Int} {i : Int} : ∀ n : Nat, (∀ j : Int, 0 ≤ j → j < n → j ≠ i → g j = f j) → 0 ≤ i → smN g n = smN f n + (if i < n then g i - f i else 0)
  | 0, _, h0 => by
    rw [if_neg (by omega)]; rfl
  | n + 1, h, h0 => by
    have ih := smN_upd n (fun j a b => h j a (by omega)) h0
    show smN g n + g n = smN f n + f n + _
    by_cases hi : i = n
    · rw [ih, if_neg (by omega), if_pos (by omega), hi]
      omega
    · rw [ih, h n (by omega) (by omega) (fun z => hi z.symm)]
      by_cases hl : i < n
      · rw [if_pos hl, if_pos (by omega)]; omega
      · rw [if_neg hl, if_neg (by omega)]; omega
theorem sm_upd {n i : Int} {f g : Int → Int} (h : ∀ j : Int, 0 ≤ j → j < n → j ≠ i → g j = f j) (h0 : 0 ≤ i) (h1 : i < n) : sm n g = sm n f + (g i - f i) := by
  unfold sm
  rw [smN_upd (i := i) n.toNat (fun j a b => h j a (by omega)) h0, if_pos (by omega)]
theorem smN_le {f g : Int → Int} : ∀ n : Nat, (∀ j : Int, 0 ≤ j → j < n → f j ≤ g j) → smN f n ≤ smN g n
  | 0, _ => Int.le_refl _
  | n + 1, h => by
    have h1 := smN_le n (fun j h0 h1 => h j h0 (by omega))
    have h2 := h n (by omega) (by omega)
    show smN f n + f n ≤ smN g n + g n
    omega
theorem sm_le {n : Int} {f g : Int → Int} (h : ∀ j : Int, 0 ≤ j → j < n → f j ≤ g j) : sm n f ≤ sm n g := smN_le _ (fun j h0 h1 => h j h0 (by omega))
theorem smN_c1 {f : Int → Int} : ∀ n : Nat, (∀ j : Int, 0 ≤ j → j < n → f j = 1) → smN f n = n
  | 0, _ => rfl
  | n + 1, h => by
    show smN f n + f n = ((n + 1 : Nat) : Int)
    rw [smN_c1 n (fun j h0 h1 => h j h0 (by omega)), h n (by omega) (by omega)]
    omega
theorem sm_c1 {n : Int} {f : Int → Int} (hn : 0 ≤ n) (h : ∀ j : Int, 0 ≤ j → j < n → f j = 1) : sm n f = n := by
  unfold sm
  rw [smN_c1 n.toNat (fun j h0 h1 => h j h0 (by omega)), Int.toNat_of_nonneg hn]
theorem sm_mono {m n : Int} {f : Int → Int} (hm : 0 ≤ m) (hmn : m ≤ n) (h : ∀ j : Int, 0 ≤ j → j < n → 0 ≤ f j) : sm m f ≤ sm n f := by
  obtain ⟨d, hd⟩ := Int.eq_ofNat_of_zero_le (show 0 ≤ n - m by omega)
  have key : ∀ k : Nat, (k : Int) ≤ n - m → sm m f ≤ sm (m + k) f := by
    intro k
    induction k with
    | zero => intro _; rw [show m + ((0 : Nat) : Int) = m by omega]; exact Int.le_refl _
    | succ k ih =>
      intro hk
      have h1 := ih (by omega)
      have h2 := h (m + k) (by omega) (by omega)
      rw [show m + ((k + 1 : Nat) : Int) = m + k + 1 by omega, sm_s (by omega)]
      omega
  have := key d (by omega)
  rw [show m + (d : Int) = n by omega] at this
  exact this
theorem fO_nn {x : Int} : 0 ≤ fO x ↔ 0 ≤ x := by
  unfold fO
  split <;> omega
/-- places that have a block: there is one, or none -/
theorem pwM_pos {s : Int → Int} {b : Int} : 0 < pwM s b ↔ ∃ k p : Int, 0 ≤ k ∧ k < s 0 ∧ 0 ≤ p ∧ p < 6 ∧ mo s k (2 + p) = b := by
  unfold pwM
  rw [sm_pos (fun j _ _ => sm_nn (fun i _ _ => (b2i_b _).1))]
  constructor
  · rintro ⟨k, a, b, c⟩
    obtain ⟨p, d, e, f⟩ := sm_b2i_pos.mp c
    exact ⟨k, p, a, b, d, e, f⟩
  · rintro ⟨k, p, a, b, d, e, f⟩
    exact ⟨k, a, b, sm_b2i_pos.mpr ⟨p, d, e, f⟩⟩
theorem pwM_nn {s : Int → Int} {b : Int} : 0 ≤ pwM s b := sm_nn (fun j _ _ => sm_nn (fun i _ _ => (b2i_b _).1))
theorem FDm_pos {s ce : Int → Int} {p : Int} : 0 ≤ FDm s ce p ↔ ∃ d, 0 ≤ d ∧ d < 40 ∧ mf s d = 1 ∧ ∀ c, 0 ≤ c → c < 8 → mb s d c = ce (8 * p + c) := by
  unfold FDm
  rcases fnd_c 40 (fun b => 0 ≤ b ∧ b ≤ 39 ∧ mf s b = 1 ∧ ∀ c, 0 ≤ c → c < 8 → mb s b c = ce (8 * p + c)) with ⟨e, h⟩ | ⟨h0, h1, h2, -⟩
  · rw [e]
    exact ⟨fun z => by omega, fun ⟨d, a, b, c, g⟩ => absurd ⟨a, by omega, c, g⟩ (h d a b)⟩
  · exact ⟨fun _ => ⟨_, h0, h1, h2.2.2.1, h2.2.2.2⟩, fun _ => h0⟩
theorem FDm_at {s ce : Int → Int} {p : Int} (h : 0 ≤ FDm s ce p) : FDm s ce p < 40 ∧ mf s (FDm s ce p) = 1 ∧ ∀ c, 0 ≤ c → c < 8 → mb s (FDm s ce p) c = ce (8 * p + c) := by
  rcases fnd_c 40 (fun b => 0 ≤ b ∧ b ≤ 39 ∧ mf s b = 1 ∧ ∀ c, 0 ≤ c → c < 8 → mb s b c = ce (8 * p + c)) with ⟨e, -⟩ | ⟨_, h1, h2, -⟩
  · have : FDm s ce p = -1 := e
    omega
  · exact ⟨h1, h2.2.2⟩
theorem mS_ex {s : Int → Int} {k x : Int} (h0 : 0 ≤ k) (h1 : k < s 0) (h : mo s k 0 = x) : 0 ≤ mS s x := by
  rcases fnd_c (s 0) (fun j => mo s j 0 = x) with ⟨_, g⟩ | ⟨z0, _⟩
  · exact absurd h (g k h0 h1)
  · exact z0
theorem mS_in {s : Int → Int} {x : Int} (h : 0 ≤ mS s x) : mS s x < s 0 ∧ mo s (mS s x) 0 = x := by
  rcases mS_c s x with z | z <;> omega
theorem mS_ext {s t : Int → Int} {x : Int} (h : ∀ k, 0 ≤ k → k < s 0 → mo t k 0 = mo s k 0) (hn : s 0 ≤ t 0) (hx : 0 ≤ mS s x) : mS t x = mS s x := by
  rcases fnd_c (s 0) (fun j => mo s j 0 = x) with ⟨e, _⟩ | ⟨z0, z1, z2, z3⟩
  · have : mS s x = -1 := e
    omega
  · have e : fnd (t 0) (fun k => mo t k 0 = x) = fnd (s 0) (fun j => mo s j 0 = x) := fnd_y z0 (by omega) (by rw [h _ z0 z1]; exact z2) (fun j a b => by rw [h j a (by omega)]; exact z3 j a b)
    exact e
/-- what holds of the reference's numbers -/
def MV (s : Int → Int) : Prop := MI s ∧ (∀ k p, 0 ≤ k → k < 16 → 0 ≤ p → p < 6 → 0 ≤ mo s k (2 + p) ∧ mo s k (2 + p) < 40) ∧
  (∀ d, 0 ≤ d → d < 40 → mf s d = 0 ∨ mf s d = 1) ∧ (∀ k p, 0 ≤ k → k < s 0 → 0 ≤ p → p < 6 → mf s (mo s k (2 + p)) = 1) ∧
  (∀ b, 0 ≤ b → b < 4 → mh s b = -1 ∨ (0 ≤ mh s b ∧ 0 ≤ mS s (mh s b))) ∧ (∀ k, 0 ≤ k → k < s 0 → mo s k 0 < s 1) ∧ (s 5 = 0 ∨ s 5 = 1) ∧
  (∀ d, 0 ≤ d → d < 40 → mf s d = 1 → 0 < pwM s d)
theorem MV.i {s : Int → Int} (h : MV s) : MI s := h.1
theorem MV.l {s : Int → Int} (h : MV s) : ∀ k p, 0 ≤ k → k < 16 → 0 ≤ p → p < 6 → 0 ≤ mo s k (2 + p) ∧ mo s k (2 + p) < 40 := h.2.1
theorem MV.f {s : Int → Int} (h : MV s) : ∀ d, 0 ≤ d → d < 40 → mf s d = 0 ∨ mf s d = 1 := h.2.2.1
theorem MV.u {s : Int → Int} (h : MV s) : ∀ k p, 0 ≤ k → k < s 0 → 0 ≤ p → p < 6 → mf s (mo s k (2 + p)) = 1 := h.2.2.2.1
theorem MV.h {s : Int → Int} (h : MV s) : ∀ b, 0 ≤ b → b < 4 → mh s b = -1 ∨ (0 ≤ mh s b ∧ 0 ≤ mS s (mh s b)) := h.2.2.2.2.1
theorem MV.n {s : Int → Int} (h : MV s) : ∀ k, 0 ≤ k → k < s 0 → mo s k 0 < s 1 := h.2.2.2.2.2.1
theorem MV.g {s : Int → Int} (h : MV s) : s 5 = 0 ∨ s 5 = 1 := h.2.2.2.2.2.2.1
theorem MV.w {s : Int → Int} (h : MV s) : ∀ d, 0 ≤ d → d < 40 → mf s d = 1 → 0 < pwM s d := h.2.2.2.2.2.2.2
theorem MV.z {s : Int → Int} (h : MV s) : 1 ≤ s 0 ∧ s 0 ≤ 16 := h.1.2.2.2.2
/-- a block is there just where a place has it -/
theorem MV.p {s : Int → Int} (h : MV s) {d : Int} (h0 : 0 ≤ d) (h1 : d < 40) : mf s d = 1 ↔ 0 < pwM s d := by
  refine ⟨h.w d h0 h1, fun z => ?_⟩
  obtain ⟨k, p, a, b, c, e, g⟩ := pwM_pos.mp z
  rw [← g]; exact h.u k p a b c e
/-! entries behind an update -/
theorem mf_put {s : Int → Int} {k p x d : Int} (h0 : 0 ≤ k) (h1 : k ≤ 15) (_p0 : 0 ≤ p) (p1 : p < 6) (hd : 0 ≤ d) : mf (updI s (10 + 8 * k + 2 + p) x) d = mf s d := updI_n (by omega)
theorem mb_put {s : Int → Int} {k p x d c : Int} (h0 : 0 ≤ k) (h1 : k ≤ 15) (_p0 : 0 ≤ p) (p1 : p < 6) (hd : 0 ≤ d) (hc : 0 ≤ c) : mb (updI s (10 + 8 * k + 2 + p) x) d c = mb s d c := updI_n (by omega)
theorem mo_put_n {s : Int → Int} {k p x q : Int} (h : q ≠ p) : mo (updI s (10 + 8 * k + 2 + p) x) k (2 + q) = mo s k (2 + q) := updI_n (by omega)
theorem mo_put_s {s : Int → Int} {k p x : Int} : mo (updI s (10 + 8 * k + 2 + p) x) k (2 + p) = x := by
  unfold mo updI; exact if_pos (by omega)
theorem mf_mk_s {s ce : Int → Int} {b p : Int} (hb : 0 ≤ b) : mf (mkM s ce b p) b = 1 := by
  unfold mf mkM
  rw [updI_n (by omega)]
  unfold cpI
  rw [if_neg (by omega), updI_s]
theorem mf_mk_n {s ce : Int → Int} {b p d : Int} (_hb : 0 ≤ b) (hd : 0 ≤ d) (h : d ≠ b) : mf (mkM s ce b p) d = mf s d := by
  unfold mf mkM
  rw [updI_n (by omega)]
  unfold cpI
  rw [if_neg (by omega), updI_n (by omega)]
theorem mb_mk_s {s ce : Int → Int} {b p c : Int} (hb : 0 ≤ b) (h0 : 0 ≤ c) (h1 : c < 8) : mb (mkM s ce b p) b c = ce (8 * p + c) := by
  unfold mb mkM
  rw [updI_n (by omega)]
  unfold cpI
  rw [if_pos (by omega)]
  congr 1; omega
theorem mb_mk_n {s ce : Int → Int} {b p d c : Int} (_hb : 0 ≤ b) (hd : 0 ≤ d) (h : d ≠ b) (h0 : 0 ≤ c) (h1 : c < 8) : mb (mkM s ce b p) d c = mb s d c := by
  unfold mb mkM
  rw [updI_n (by omega)]
  unfold cpI
  rw [if_neg (by omega), updI_n (by omega)]
/-! the walk of a write over the six places -/
def JW (s s0 ce : Int → Int) (fr k : Int) (p : Nat) (sp : Int → Int) : Prop :=
  (∀ j, j = 0 ∨ j = 1 ∨ j = 4 ∨ (5 ≤ j ∧ j < 10 + 8 * k + 2) ∨ (10 + 8 * k + 2 + (p : Int) ≤ j ∧ j < 138) → sp j = s0 j) ∧
  (∀ d, 0 ≤ d → d < 40 → mf sp d = 0 ∨ mf sp d = 1) ∧
  (∀ d, 0 ≤ d → d < 40 → mf s d = 1 → mf sp d = 1 ∧ ∀ c, 0 ≤ c → c < 8 → mb sp d c = mb s d c) ∧
  (∀ d, 0 ≤ d → d < 40 → mf sp d = 1 → mf s d = 1 ∨ ∃ q, 0 ≤ q ∧ q < (p : Int) ∧ DFm s ce fr q ∧ mo sp k (2 + q) = d ∧ ∀ c, 0 ≤ c → c < 8 → mb sp d c = ce (8 * q + c)) ∧
  (∀ q, 0 ≤ q → q < (p : Int) → 0 ≤ mo sp k (2 + q) ∧ mo sp k (2 + q) < 40 ∧ mf sp (mo sp k (2 + q)) = 1 ∧ (DFm s ce fr q → ∀ c, 0 ≤ c → c < 8 → mb sp (mo sp k (2 + q)) c = ce (8 * q + c))) ∧
  sm 40 (fun d => mf sp d) = sm 40 (fun d => mf s d) + sm (p : Int) (fun q => b2i (DFm s ce fr q ∧ ¬ TKm s ce fr q))
theorem JW.mo_fr {s s0 ce sp : Int → Int} {fr k : Int} {p : Nat} (J : JW s s0 ce fr k p sp) (h0 : 0 ≤ fr) (h1 : fr < k) {j : Int} (j0 : 0 ≤ j) (j1 : j < 8) : mo sp fr j = mo s0 fr j := J.1 _ (by omega)
theorem JW.mc_fr {s s0 ce sp : Int → Int} {fr k : Int} {p : Nat} (J : JW s s0 ce fr k p sp) (h0 : 0 ≤ fr) (h1 : fr < k) (hs : ∀ q, 0 ≤ q → q < 6 → mo s0 fr (2 + q) = mo s fr (2 + q)) (hl : ∀ q, 0 ≤ q → q < 6 → 0 ≤ mo s fr (2 + q) ∧ mo s fr (2 + q) < 40 ∧ mf s (mo s fr (2 + q)) = 1) {c : Int} (c0 : 0 ≤ c) (c1 : c < 48) : mc sp fr c = mc s fr c := by
  have hz := hl (c / 8) (by omega) (by omega)
  unfold mc
  rw [J.mo_fr h0 h1 (by omega) (by omega), hs _ (by omega) (by omega)]
  exact (J.2.2.1 _ hz.1 hz.2.1 hz.2.2).2 _ (by omega) (by omega)
theorem JW.df {s s0 ce sp : Int → Int} {fr k : Int} {p : Nat} (J : JW s s0 ce fr k p sp) (h0 : 0 ≤ fr) (h1 : fr < k) (hs : ∀ q, 0 ≤ q → q < 6 → mo s0 fr (2 + q) = mo s fr (2 + q)) (hl : ∀ q, 0 ≤ q → q < 6 → 0 ≤ mo s fr (2 + q) ∧ mo s fr (2 + q) < 40 ∧ mf s (mo s fr (2 + q)) = 1) {q : Int} (q0 : 0 ≤ q) (q1 : q < 6) : DFm sp ce fr q ↔ DFm s ce fr q := by
  constructor
  · rintro ⟨c, a, b, e⟩
    exact ⟨c, a, b, by rw [← J.mc_fr h0 h1 hs hl (by omega) (by omega)]; exact e⟩
  · rintro ⟨c, a, b, e⟩
    exact ⟨c, a, b, by rw [J.mc_fr h0 h1 hs hl (by omega) (by omega)]; exact e⟩
theorem JW.tk {s s0 ce sp : Int → Int} {fr k : Int} {p : Nat} (J : JW s s0 ce fr k p sp) (h5 : sp 5 = s 5) : (sp 5 = 1 ∧ 0 ≤ FDm sp ce (p : Int)) ↔ TKm s ce fr (p : Int) := by
  constructor
  · rintro ⟨e5, hf⟩
    obtain ⟨d, d0, d1, dl, dc⟩ := FDm_pos.mp hf
    rcases J.2.2.2.1 d d0 d1 dl with h | ⟨q, q0, q1, hq, -, hc⟩
    · exact Or.inl ⟨by omega, fO_nn.mpr (FDm_pos.mpr ⟨d, d0, d1, h, fun c c0 c1 => by rw [← (J.2.2.1 d d0 d1 h).2 c c0 c1]; exact dc c c0 c1⟩)⟩
    · exact Or.inr ⟨q, q0, q1, by omega, hq, fun c c0 c1 => by rw [← dc c c0 c1]; exact hc c c0 c1⟩
  · rintro (⟨e5, hf⟩ | ⟨q, q0, q1, e5, hq, hs⟩)
    · obtain ⟨d, d0, d1, dl, dc⟩ := FDm_pos.mp (fO_nn.mp hf)
      have z := J.2.2.1 d d0 d1 dl
      exact ⟨by omega, FDm_pos.mpr ⟨d, d0, d1, z.1, fun c c0 c1 => by rw [z.2 c c0 c1]; exact dc c c0 c1⟩⟩
    · have z := J.2.2.2.2.1 q q0 q1
      exact ⟨by omega, FDm_pos.mpr ⟨_, z.1, z.2.1, z.2.2.1, fun c c0 c1 => by rw [z.2.2.2 hq c c0 c1]; exact (hs c c0 c1).symm⟩⟩
theorem JW_s {s s0 ce sp s' : Int → Int} {fr k : Int} {p : Nat} (J : JW s s0 ce fr k p sp) (h0 : 0 ≤ fr) (h1 : fr < k) (hk : k ≤ 15) (h5 : s0 5 = s 5) (hp : p < 6)
    (hs : ∀ q, 0 ≤ q → q < 6 → mo s0 fr (2 + q) = mo s fr (2 + q)) (hl : ∀ q, 0 ≤ q → q < 6 → 0 ≤ mo s fr (2 + q) ∧ mo s fr (2 + q) < 40 ∧ mf s (mo s fr (2 + q)) = 1) (h : wrR ce fr k sp p s') : JW s s0 ce fr k (p + 1) s' := by
  have e5 : sp 5 = s 5 := (J.1 5 (by omega)).trans h5
  have hdf := J.df h0 h1 hs hl (q := (p : Int)) (by omega) (by omega)
  have htk := J.tk (h5 := e5)
  obtain ⟨J1, J2, J3, J4, J5, J6⟩ := id J
  have hc : ((p + 1 : Nat) : Int) = (p : Int) + 1 := rfl
  rcases h with ⟨hd, rfl⟩ | ⟨hd, r, s1, hb, rfl⟩
  · have hd' : ¬ DFm s ce fr (p : Int) := fun z => hd (hdf.mpr z)
    have ex : mo sp fr (2 + (p : Int)) = mo s fr (2 + (p : Int)) := by rw [J.mo_fr h0 h1 (by omega) (by omega), hs _ (by omega) (by omega)]
    have hz := hl (p : Int) (by omega) (by omega)
    generalize hx : mo sp fr (2 + (p : Int)) = x at ex ⊢
    rw [← ex] at hz
    have fm : ∀ d, 0 ≤ d → mf (updI sp (10 + 8 * k + 2 + (p : Int)) x) d = mf sp d := fun d a => mf_put (by omega) hk (by omega) (by omega) a
    have fb : ∀ d c, 0 ≤ d → 0 ≤ c → mb (updI sp (10 + 8 * k + 2 + (p : Int)) x) d c = mb sp d c := fun d c a b => mb_put (by omega) hk (by omega) (by omega) a b
    have xl := J3 x hz.1 hz.2.1 hz.2.2
    refine ⟨fun j hj => ?_, fun d d0 d1 => ?_, fun d d0 d1 g => ?_, fun d d0 d1 g => ?_, fun q q0 q1 => ?_, ?_⟩
    · rw [updI_n (by omega)]; exact J1 j (by omega)
    · rw [fm d d0]; exact J2 d d0 d1
    · rw [fm d d0]
      exact ⟨(J3 d d0 d1 g).1, fun c c0 c1 => by rw [fb d c d0 c0]; exact (J3 d d0 d1 g).2 c c0 c1⟩
    · rw [fm d d0] at g
      rcases J4 d d0 d1 g with z | ⟨q, q0, q1, hq, hm, hcc⟩
      · exact Or.inl z
      · exact Or.inr ⟨q, q0, by omega, hq, by rw [mo_put_n (by omega)]; exact hm, fun c c0 c1 => by rw [fb d c d0 c0]; exact hcc c c0 c1⟩
    · rcases Int.lt_or_le q (p : Int) with q2 | q2
      · have z := J5 q q0 q2
        rw [mo_put_n (by omega), fm _ z.1]
        exact ⟨z.1, z.2.1, z.2.2.1, fun g c c0 c1 => by rw [fb _ c z.1 c0]; exact z.2.2.2 g c c0 c1⟩
      · have e : q = (p : Int) := by omega
        subst e
        rw [mo_put_s, fm _ hz.1]
        exact ⟨hz.1, hz.2.1, xl.1, fun g => absurd g hd'⟩
    · rw [hc, sm_s (by omega), b2i_f (fun z => hd' z.1), sm_congr (g := fun d => mf sp d) (fun d d0 _ => fm d d0), J6]
      omega
  · have hd' : DFm s ce fr (p : Int) := hdf.mp hd
    rcases hb with ⟨g5, gf, rfl, rfl⟩ | ⟨gn, r0, r1, gr, -, rfl⟩
    · have ht := htk.mp ⟨g5, gf⟩
      have hf := FDm_at gf
      have e3 : ∀ j, j ≠ 3 → updI sp 3 (sp 3 + 1) j = sp j := fun j a => updI_n a
      generalize hx : FDm sp ce (p : Int) = x at gf hf ⊢
      have fm : ∀ d, 0 ≤ d → mf (updI (updI sp 3 (sp 3 + 1)) (10 + 8 * k + 2 + (p : Int)) x) d = mf sp d := fun d a => (mf_put (by omega) hk (by omega) (by omega) a).trans (e3 _ (by omega))
      have fb : ∀ d c, 0 ≤ d → 0 ≤ c → mb (updI (updI sp 3 (sp 3 + 1)) (10 + 8 * k + 2 + (p : Int)) x) d c = mb sp d c := fun d c a b => (mb_put (by omega) hk (by omega) (by omega) a b).trans (e3 _ (by omega))
      have fo : ∀ q, 0 ≤ q → q ≠ (p : Int) → mo (updI (updI sp 3 (sp 3 + 1)) (10 + 8 * k + 2 + (p : Int)) x) k (2 + q) = mo sp k (2 + q) := fun q a b => (mo_put_n b).trans (e3 _ (by omega))
      refine ⟨fun j hj => ?_, fun d d0 d1 => ?_, fun d d0 d1 g => ?_, fun d d0 d1 g => ?_, fun q q0 q1 => ?_, ?_⟩
      · rw [updI_n (by omega), updI_n (by omega)]; exact J1 j (by omega)
      · rw [fm d d0]; exact J2 d d0 d1
      · rw [fm d d0]
        exact ⟨(J3 d d0 d1 g).1, fun c c0 c1 => by rw [fb d c d0 c0]; exact (J3 d d0 d1 g).2 c c0 c1⟩
      · rw [fm d d0] at g
        rcases J4 d d0 d1 g with z | ⟨q, q0, q1, hq, hm, hcc⟩
        · exact Or.inl z
        · exact Or.inr ⟨q, q0, by omega, hq, by rw [fo q q0 (by omega)]; exact hm, fun c c0 c1 => by rw [fb d c d0 c0]; exact hcc c c0 c1⟩
      · rcases Int.lt_or_le q (p : Int) with q2 | q2
        · have z := J5 q q0 q2
          rw [fo q q0 (by omega), fm _ z.1]
          exact ⟨z.1, z.2.1, z.2.2.1, fun g c c0 c1 => by rw [fb _ c z.1 c0]; exact z.2.2.2 g c c0 c1⟩
        · have e : q = (p : Int) := by omega
          subst e
          rw [mo_put_s, fm _ gf]
          exact ⟨gf, hf.1, hf.2.1, fun _ c c0 c1 => by rw [fb _ c gf c0]; exact hf.2.2 c c0 c1⟩
      · rw [hc, sm_s (by omega), b2i_f (fun z => z.2 ht), sm_congr (g := fun d => mf sp d) (fun d d0 _ => fm d d0), J6]
        omega
    · have ht : ¬ TKm s ce fr (p : Int) := fun z => gn (htk.mpr z)
      have g0 : mf sp r = 0 := by rcases J2 r r0 r1 with z | z <;> omega
      have fms : mf (updI (mkM sp ce r (p : Int)) (10 + 8 * k + 2 + (p : Int)) r) r = 1 := (mf_put (by omega) hk (by omega) (by omega) r0).trans (mf_mk_s r0)
      have fmn : ∀ d, 0 ≤ d → d ≠ r → mf (updI (mkM sp ce r (p : Int)) (10 + 8 * k + 2 + (p : Int)) r) d = mf sp d := fun d a b => (mf_put (by omega) hk (by omega) (by omega) a).trans (mf_mk_n r0 a b)
      have fbs : ∀ c, 0 ≤ c → c < 8 → mb (updI (mkM sp ce r (p : Int)) (10 + 8 * k + 2 + (p : Int)) r) r c = ce (8 * (p : Int) + c) := fun c a b => (mb_put (by omega) hk (by omega) (by omega) r0 a).trans (mb_mk_s r0 a b)
      have fbn : ∀ d c, 0 ≤ d → d ≠ r → 0 ≤ c → c < 8 → mb (updI (mkM sp ce r (p : Int)) (10 + 8 * k + 2 + (p : Int)) r) d c = mb sp d c := fun d c a b e f => (mb_put (by omega) hk (by omega) (by omega) a e).trans (mb_mk_n r0 a b e f)
      have fo : ∀ q, 0 ≤ q → q < 6 → q ≠ (p : Int) → mo (updI (mkM sp ce r (p : Int)) (10 + 8 * k + 2 + (p : Int)) r) k (2 + q) = mo sp k (2 + q) := fun q a a2 b => (mo_put_n b).trans (mkM_o r0 (by omega) (by omega))
      refine ⟨fun j hj => ?_, fun d d0 d1 => ?_, fun d d0 d1 g => ?_, fun d d0 d1 g => ?_, fun q q0 q1 => ?_, ?_⟩
      · rw [updI_n (by omega), mkM_o r0 (by omega) (by omega)]; exact J1 j (by omega)
      · by_cases e : d = r
        · rw [e]; exact Or.inr fms
        · rw [fmn d d0 e]; exact J2 d d0 d1
      · have z := J3 d d0 d1 g
        have e : d ≠ r := fun e => by rw [e] at z; omega
        rw [fmn d d0 e]
        exact ⟨z.1, fun c c0 c1 => by rw [fbn d c d0 e c0 c1]; exact z.2 c c0 c1⟩
      · by_cases e : d = r
        · subst e
          exact Or.inr ⟨(p : Int), by omega, by omega, hd', mo_put_s, fbs⟩
        · rw [fmn d d0 e] at g
          rcases J4 d d0 d1 g with z | ⟨q, q0, q1, hq, hm, hcc⟩
          · exact Or.inl z
          · exact Or.inr ⟨q, q0, by omega, hq, by rw [fo q q0 (by omega) (by omega)]; exact hm, fun c c0 c1 => by rw [fbn d c d0 e c0 c1]; exact hcc c c0 c1⟩
      · rcases Int.lt_or_le q (p : Int) with q2 | q2
        · have z := J5 q q0 q2
          have e : mo sp k (2 + q) ≠ r := fun e => by rw [e] at z; omega
          rw [fo q q0 (by omega) (by omega), fmn _ z.1 e]
          exact ⟨z.1, z.2.1, z.2.2.1, fun g c c0 c1 => by rw [fbn _ c z.1 e c0 c1]; exact z.2.2.2 g c c0 c1⟩
        · have e : q = (p : Int) := by omega
          subst e
          rw [mo_put_s]
          exact ⟨r0, r1, fms, fun _ => fbs⟩
      · rw [hc, sm_s (by omega), b2i_t ⟨hd', ht⟩, sm_upd (i := r) (f := fun d => mf sp d) (fun d d0 _ e => fmn d d0 e) r0 r1, J6, fms, g0]
        omega
