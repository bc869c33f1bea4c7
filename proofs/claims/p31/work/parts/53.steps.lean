/-! ===== common states; the changes as steps over the reference's numbers ===== -/
theorem MI.slot {s : Int → Int} (h : MI s) {a : Int} (a0 : 0 ≤ a) (a1 : a < s 0) : mS s (mo s a 0) = a :=
  fnd_y a0 a1 rfl (fun j j0 ja => by have := h.2.2.1 j a j0 ja a1; omega)
theorem MI.down {s : Int → Int} (h : MI s) {a : Int} (a0 : 0 < a) (a1 : a < s 0) : 0 ≤ mS s (mo s a 1) ∧ mS s (mo s a 1) < a ∧ mo s (mS s (mo s a 1)) 0 = mo s a 1 ∧ 0 < mo s a 0 := by
  have e := h.slot (a := a) (by omega) a1
  have hp : 0 < mo s a 0 := by
    have := h.2.2.1 0 a (by omega) a0 a1
    have := h.1
    omega
  have z := h.par1 (x := mo s a 0) (by omega) hp
  rw [e] at z
  exact ⟨z.1, z.2.2, (mS_in z.1).2, hp⟩
theorem gM_at {s : Int → Int} (h : MI s) {a : Int} (a0 : 0 ≤ a) (a1 : a < s 0) : gM s (mo s a 0) = mo s a 1 := by
  unfold gM; rw [h.slot a0 a1]
theorem dnF_fu {s : Int → Int} (h : MI s) {k : Int} (k0 : 0 ≤ k) : ∀ (n : Nat) (x : Int), 0 ≤ mS s x → mS s x < n → dnF (gM s) n x k = dnF (gM s) (n + 1) x k
  | 0, x, a, b => by omega
  | n + 1, x, a, b => by
    rcases Int.lt_or_le k x with q | q
    · have hp := h.par a (by omega)
      rw [dnF_s q, dnF_s q]
      exact dnF_fu h k0 n _ hp.1 (by omega)
    · rw [dnF_e q, dnF_e q]
theorem cmM_dn {s : Int → Int} (h : MI s) {y : Int} (hy : 0 ≤ mS s y) (y0 : 0 < y) : ∀ (n : Nat) (k : Int), 0 ≤ mS s k → k < y → cmM s y n k = cmM s (gM s y) n k
  | 0, k, _, _ => rfl
  | n + 1, k, hk, hlt => by
    have hn := h.nn hk
    have hny := h.nn hy
    have hp := h.par hy y0
    have h16 := h.2.2.2.2.2
    have e : dnF (gM s) 16 y k = dnF (gM s) 16 (gM s y) k := by
      rw [dnF_s (n := 15) hlt]
      exact dnF_fu h hn.1 15 _ hp.1 (by omega)
    by_cases hd : dnF (gM s) 16 y k = k
    · rw [cmM_e hd, cmM_e (by rw [← e]; exact hd)]
    · rw [cmM_s hd, cmM_s (by rw [← e]; exact hd)]
      have hk0 : 0 < k := by
        rcases Int.lt_or_le 0 k with q | q
        · exact q
        · have e0 : k = 0 := by omega
          subst e0
          exact absurd (dnF_0 h 16 y hy (by omega)) hd
      have hpk := h.par hk hk0
      exact cmM_dn h hy y0 n _ hpk.1 (by omega)
theorem cmX_eq {s f : Int → Int} (h : MI s) (hf : ∀ a, 0 ≤ a → a < s 0 → f a = mS s (mo s a 1)) : ∀ (N : Nat) (a b : Int), 0 ≤ a → a < s 0 → 0 ≤ b → b < s 0 → a + b < N →
    0 ≤ cmS f N a b ∧ cmS f N a b < s 0 ∧ ∀ M : Nat, a < M → cmM s (mo s b 0) M (mo s a 0) = mo s (cmS f N a b) 0
  | 0, a, b, a0, a1, b0, b1, hl => by omega
  | N + 1, a, b, a0, a1, b0, b1, hl => by
    rcases Int.lt_trichotomy a b with q | q | q
    · have hd := h.down (a := b) (by omega) b1
      have hlt := h.2.2.1 a b a0 q b1
      rw [cmS_l (by omega) (by omega), hf b b0 b1]
      have ih := cmX_eq h hf N a (mS s (mo s b 1)) a0 a1 hd.1 (by omega) (by omega)
      refine ⟨ih.1, ih.2.1, fun M hM => ?_⟩
      rw [cmM_dn h (y := mo s b 0) (by rw [h.slot b0 b1]; exact b0) hd.2.2.2 M (mo s a 0) (by rw [h.slot a0 a1]; exact a0) hlt, gM_at h b0 b1]
      have y := ih.2.2 M hM
      rw [hd.2.2.1] at y
      exact y
    · subst q
      rw [cmS_e rfl]
      exact ⟨a0, a1, fun M _ => cmM_e (dnF_e (Int.le_refl _))⟩
    · have hd := h.down (a := a) (by omega) a1
      have hlt := h.2.2.1 b a b0 q a1
      rw [cmS_g q, hf a a0 a1]
      have ih := cmX_eq h hf N (mS s (mo s a 1)) b hd.1 (by omega) b0 b1 (by omega)
      refine ⟨ih.1, ih.2.1, fun M hM => ?_⟩
      obtain ⟨M', rfl⟩ : ∃ M', M = M' + 1 := ⟨M - 1, by omega⟩
      rw [cmM_s (by rw [dnF_e (by omega)]; omega), gM_at h a0 a1]
      have y := ih.2.2 M' (by omega)
      rw [hd.2.2.1] at y
      exact y
theorem RW.cm {V : Vt} {w : Nat} {s : Int → Int} (h : RW V w s) {a b : Int} (a0 : 0 ≤ a) (a1 : a < s 0) (b0 : 0 ≤ b) (b1 : b < s 0) : 0 ≤ cmS (pS (V 4 w 3) (V 5 w) (V 6 w)) 32 a b ∧ cmS (pS (V 4 w 3) (V 5 w) (V 6 w)) 32 a b < s 0 ∧ cmM s (mo s b 0) 16 (mo s a 0) = mo s (cmS (pS (V 4 w 3) (V 5 w) (V 6 w)) 32 a b) 0 := by
  have hz := h.m.z
  have z := cmX_eq h.m.i (f := pS (V 4 w 3) (V 5 w) (V 6 w)) (fun a a0 a1 => h.psl a0 a1) 32 a b a0 a1 b0 b1 (by omega)
  exact ⟨z.1, z.2.1, z.2.2 16 (by omega)⟩
theorem RW.hcm {V : Vt} {w : Nat} {s : Int → Int} (h : RW V w s) : ∀ a b, 0 ≤ a → a < V 4 w 3 → 0 ≤ b → b < V 4 w 3 → 0 ≤ cmS (pS (V 4 w 3) (V 5 w) (V 6 w)) 32 a b ∧ cmS (pS (V 4 w 3) (V 5 w) (V 6 w)) 32 a b < V 4 w 3 := fun a b a0 a1 b0 b1 => by
  have e := h.n0
  have z := h.cm a0 (by omega) b0 (by omega)
  exact ⟨z.1, by omega⟩
/-- the slot of the common state, of a head and a state -/
theorem RW.cms {V : Vt} {w : Nat} {s : Int → Int} (h : RW V w s) {b x : Int} (hb : ISb s b) (hx : 0 ≤ mS s x) : cmS (pS (V 4 w 3) (V 5 w) (V 6 w)) 32 (mS s (mh s b)) (mS s x) = mS s (cmM s x 16 (mh s b)) ∧ 0 ≤ mS s (cmM s x 16 (mh s b)) := by
  have hs := hb.sl h.m
  have hxx := mS_in hx
  have z := h.cm hs.1 hs.2.1 hx hxx.1
  rw [hxx.2, hs.2.2] at z
  rw [z.2.2, h.m.i.slot z.1 z.2.1]
  exact ⟨rfl, z.1⟩
/-! what a change of other entries leaves -/
theorem MV.cg5 {s t : Int → Int} (h : MV s) (e : ∀ j, j = 0 ∨ j = 1 ∨ 6 ≤ j → j < 498 → t j = s j) (h5 : t 5 = 0 ∨ t 5 = 1) : MV t := by
  have hz := h.z
  have e0 := e 0 (by omega) (by omega)
  have e1 := e 1 (by omega) (by omega)
  have em : ∀ k j, 0 ≤ k → k < 16 → 0 ≤ j → j < 8 → mo t k j = mo s k j := fun k j a b c d => e _ (by omega) (by omega)
  have ef : ∀ d, 0 ≤ d → d < 40 → mf t d = mf s d := fun d a b => e _ (by omega) (by omega)
  have eh : ∀ b, 0 ≤ b → b < 4 → mh t b = mh s b := fun b a c => e _ (by omega) (by omega)
  have eS : ∀ x, mS t x = mS s x := fun x => by
    unfold mS
    rw [e0]
    exact fnd_congr (fun j a b => by rw [em j 0 a (by omega) (by omega) (by omega)])
  have ep : ∀ d, pwM t d = pwM s d := fun d => by
    unfold pwM
    rw [e0]
    exact sm_congr (fun k a b => sm_congr (fun p c d => by rw [em k (2 + p) a (by omega) (by omega) (by omega)]))
  refine ⟨⟨?_, ?_, fun i j i0 ij jn => ?_, fun k k0 kn => ?_, by omega, by omega⟩, fun k p k0 k1 p0 p1 => ?_, fun d d0 d1 => ?_, fun k p k0 k1 p0 p1 => ?_, fun d d0 d1 => ?_, fun k k0 k1 => ?_, h5, fun d d0 d1 g => ?_⟩
  · rw [em 0 0 (by omega) (by omega) (by omega) (by omega)]; exact h.i.1
  · rw [em 0 1 (by omega) (by omega) (by omega) (by omega)]; exact h.i.2.1
  · rw [em i 0 i0 (by omega) (by omega) (by omega), em j 0 (by omega) (by omega) (by omega) (by omega)]; exact h.i.2.2.1 i j i0 ij (by omega)
  · rw [em k 0 (by omega) (by omega) (by omega) (by omega), em k 1 (by omega) (by omega) (by omega) (by omega), eS]; exact h.i.2.2.2.1 k k0 (by omega)
  · rw [em k (2 + p) k0 k1 (by omega) (by omega)]; exact h.l k p k0 k1 p0 p1
  · rw [ef d d0 d1]; exact h.f d d0 d1
  · rw [em k (2 + p) k0 (by omega) (by omega) (by omega)]
    have z := h.l k p k0 (by omega) p0 p1
    rw [ef _ z.1 z.2]; exact h.u k p k0 (by omega) p0 p1
  · rw [eh d d0 d1, eS]; exact h.h d d0 d1
  · rw [em k 0 k0 (by omega) (by omega) (by omega), e1]; exact h.n k k0 (by omega)
  · rw [ef d d0 d1] at g
    rw [ep]; exact h.w d d0 d1 g
theorem MV.cg {s t : Int → Int} (h : MV s) (e : ∀ j, j = 0 ∨ j = 1 ∨ 5 ≤ j → j < 498 → t j = s j) : MV t := h.cg5 (fun j a b => e j (by omega) b) (by rw [e 5 (by omega) (by omega)]; exact h.g)
theorem RW.cs {V : Vt} {w : Nat} {s t : Int → Int} (h : RW V w s) (e : ∀ j, 0 ≤ j → j < 498 → t j = s j) : RW V w t := by
  have hz := h.m.z
  have e0 := e 0 (by omega) (by omega)
  refine ⟨h.m.cg (fun j a b => e j (by omega) b), ?_, ?_, ?_, ?_, ?_, ?_, fun b a c => ?_, fun k a c => ?_, fun k p a c p0 p1 => ?_, fun b c b0 b1 c0 c1 => ?_, fun b b0 b1 => ?_, h.uo, h.L⟩
  · rw [e0]; exact h.n0
  · rw [e 1 (by omega) (by omega)]; exact h.n1
  · rw [e 2 (by omega) (by omega)]; exact h.c2
  · rw [e 3 (by omega) (by omega)]; exact h.c3
  · rw [e 4 (by omega) (by omega)]; exact h.c4
  · rw [e 5 (by omega) (by omega)]; exact h.c5
  · rw [show mh t b = mh s b from e _ (by omega) (by omega)]; exact h.hd b a c
  · rw [show mo t k 0 = mo s k 0 from e _ (by omega) (by omega), show mo t k 1 = mo s k 1 from e _ (by omega) (by omega)]; exact h.st k a (by omega)
  · rw [show mo t k (2 + p) = mo s k (2 + p) from e _ (by omega) (by omega)]; exact h.pl k p a (by omega) p0 p1
  · rw [show mb t b c = mb s b c from e _ (by omega) (by omega)]; exact h.bc b c b0 b1 c0 c1
  · have ep : pwM t b = pwM s b := by
      unfold pwM
      rw [e0]
      exact sm_congr (fun k a b => sm_congr (fun p c d => by rw [show mo t k (2 + p) = mo s k (2 + p) from e _ (by omega) (by omega)]))
    rw [ep]; exact h.us b b0 b1
theorem MV_4 {s : Int → Int} (h : MV s) (x : Int) : MV (updI s 4 x) := h.cg (fun j a _ => updI_n (by omega))
theorem RW_4 {V : Vt} {w : Nat} {s : Int → Int} (h : RW V w s) (x : Int) : RW (up V 0 w (updI (V 0 w) 5 (V 0 w 5 + x))) w (updI s 4 (s 4 + x)) := by
  refine ⟨MV_4 h.m _, h.n0, h.n1, h.c2, h.c3, ?_, ?_, fun b a c => by rw [show mh (updI s 4 (s 4 + x)) b = mh s b from updI_n (by omega)]; exact h.hd b a c, fun k a c => ?_, fun k p a c p0 p1 => ?_, fun b c b0 b1 c0 c1 => ?_, fun b b0 b1 => ?_, h.uo, h.L⟩
  · rw [up_s, updI_s, updI_s, h.c4]
  · rw [up_s, updI_n (by decide), updI_n (by decide)]; exact h.c5
  · rw [show mo (updI s 4 (s 4 + x)) k 0 = mo s k 0 from updI_n (by omega), show mo (updI s 4 (s 4 + x)) k 1 = mo s k 1 from updI_n (by omega)]; exact h.st k a c
  · rw [show mo (updI s 4 (s 4 + x)) k (2 + p) = mo s k (2 + p) from updI_n (by omega)]; exact h.pl k p a c p0 p1
  · rw [show mb (updI s 4 (s 4 + x)) b c = mb s b c from updI_n (by omega)]; exact h.bc b c b0 b1 c0 c1
  · have ep : pwM (updI s 4 (s 4 + x)) b = pwM s b := sm_congr (fun k a b => sm_congr (fun p c d => by rw [show mo (updI s 4 (s 4 + x)) k (2 + p) = mo s k (2 + p) from updI_n (by omega)]))
    rw [ep]; exact h.us b b0 b1
theorem MV_h {s : Int → Int} (h : MV s) {b x : Int} (b0 : 0 ≤ b) (b1 : b < 4) (hx : x = -1 ∨ 0 ≤ mS s x) : MV (updI s (6 + b) x) := by
  have hz := h.z
  have em : ∀ k j, 0 ≤ k → 0 ≤ j → mo (updI s (6 + b) x) k j = mo s k j := fun k j a c => updI_n (by omega)
  have ef : ∀ d, 0 ≤ d → mf (updI s (6 + b) x) d = mf s d := fun d a => updI_n (by omega)
  have e0 : updI s (6 + b) x 0 = s 0 := updI_n (by omega)
  have eS : ∀ y, mS (updI s (6 + b) x) y = mS s y := fun y => by
    unfold mS
    rw [e0]
    exact fnd_congr (fun j a c => by rw [em j 0 a (by omega)])
  have ep : ∀ d, pwM (updI s (6 + b) x) d = pwM s d := fun d => by
    unfold pwM
    rw [e0]
    exact sm_congr (fun k a c => sm_congr (fun p c d => by rw [em k (2 + p) a (by omega)]))
  refine ⟨⟨?_, ?_, fun i j i0 ij jn => ?_, fun k k0 kn => ?_, by omega, by omega⟩, fun k p k0 k1 p0 p1 => ?_, fun d d0 d1 => ?_, fun k p k0 k1 p0 p1 => ?_, fun d d0 d1 => ?_, fun k k0 k1 => ?_, by rw [show updI s (6 + b) x 5 = s 5 from updI_n (by omega)]; exact h.g, fun d d0 d1 g => ?_⟩
  · rw [em 0 0 (by omega) (by omega)]; exact h.i.1
  · rw [em 0 1 (by omega) (by omega)]; exact h.i.2.1
  · rw [em i 0 i0 (by omega), em j 0 (by omega) (by omega)]; exact h.i.2.2.1 i j i0 ij (by omega)
  · rw [em k 0 (by omega) (by omega), em k 1 (by omega) (by omega), eS]; exact h.i.2.2.2.1 k k0 (by omega)
  · rw [em k (2 + p) k0 (by omega)]; exact h.l k p k0 k1 p0 p1
  · rw [ef d d0]; exact h.f d d0 d1
  · rw [em k (2 + p) k0 (by omega)]
    have z := h.l k p k0 (by omega) p0 p1
    rw [ef _ z.1]; exact h.u k p k0 (by omega) p0 p1
  · rw [eS]
    by_cases e : d = b
    · rw [e, show mh (updI s (6 + b) x) b = x from updI_s]
      rcases hx with q | q
      · exact Or.inl q
      · exact Or.inr ⟨(h.i.nn q).1, q⟩
    · rw [show mh (updI s (6 + b) x) d = mh s d from updI_n (by omega)]; exact h.h d d0 d1
  · rw [em k 0 k0 (by omega), show updI s (6 + b) x 1 = s 1 from updI_n (by omega)]; exact h.n k k0 (by omega)
  · rw [ef d d0] at g
    rw [ep]; exact h.w d d0 d1 g
theorem RW_h {V : Vt} {w : Nat} {s : Int → Int} (h : RW V w s) {b x : Int} (b0 : 0 ≤ b) (b1 : b < 4) (hx : x = -1 ∨ 0 ≤ mS s x) : RW (up V 8 w (updI (V 8 w) b x)) w (updI s (6 + b) x) := by
  have hz := h.m.z
  have em : ∀ k j, 0 ≤ k → 0 ≤ j → mo (updI s (6 + b) x) k j = mo s k j := fun k j a c => updI_n (by omega)
  have e0 : updI s (6 + b) x 0 = s 0 := updI_n (by omega)
  have lo : ∀ j, j < 6 → updI s (6 + b) x j = s j := fun j a => updI_n (by omega)
  refine ⟨MV_h h.m b0 b1 hx, ?_, ?_, ?_, ?_, ?_, ?_, fun d d0 d1 => ?_, fun k a c => ?_, fun k p a c p0 p1 => ?_, fun d c d0 d1 c0 c1 => ?_, fun d d0 d1 => ?_, h.uo, h.L⟩
  · rw [e0]; exact h.n0
  · rw [lo 1 (by omega)]; exact h.n1
  · rw [lo 2 (by omega)]; exact h.c2
  · rw [lo 3 (by omega)]; exact h.c3
  · rw [lo 4 (by omega)]; exact h.c4
  · rw [lo 5 (by omega)]; exact h.c5
  · rw [up_s]
    by_cases e : d = b
    · rw [e, updI_s, show mh (updI s (6 + b) x) b = x from updI_s]
    · rw [updI_n e, show mh (updI s (6 + b) x) d = mh s d from updI_n (by omega)]; exact h.hd d d0 d1
  · rw [em k 0 a (by omega), em k 1 a (by omega)]; exact h.st k a (by omega)
  · rw [em k (2 + p) a (by omega)]; exact h.pl k p a (by omega) p0 p1
  · rw [show mb (updI s (6 + b) x) d c = mb s d c from updI_n (by omega)]; exact h.bc d c d0 d1 c0 c1
  · have ep : pwM (updI s (6 + b) x) d = pwM s d := by
      unfold pwM
      rw [e0]
      exact sm_congr (fun k a c => sm_congr (fun p c d => by rw [em k (2 + p) a (by omega)]))
    rw [ep]; exact h.us d d0 d1
/-! the changes, a step each: fill, copy, merge, branch, leave, back, set -/
def qFi (s : Int → Int) (b cell many value r : Int) (s' : Int → Int) : Prop :=
  (¬ (ISb s b ∧ ((0 ≤ cell ∧ cell ≤ 47) ∧ 1 ≤ many ∧ many ≤ 48 - cell) ∧ 0 ≤ value ∧ value ≤ 999) ∧ r = -1000001 ∧ s' = s) ∨
  ((ISb s b ∧ ((0 ≤ cell ∧ cell ≤ 47) ∧ 1 ≤ many ∧ many ≤ 48 - cell) ∧ 0 ≤ value ∧ value ≤ 999) ∧ trS s (flI (fun c => mc s (mS s (mh s b)) c) cell many value) b r s')
def qCo (s : Int → Int) (b x src dst many r : Int) (s' : Int → Int) : Prop :=
  (¬ (ISb s b ∧ 0 ≤ fO (mS s x) ∧ ((0 ≤ src ∧ src ≤ 47) ∧ 1 ≤ many ∧ many ≤ 48 - src) ∧ (0 ≤ dst ∧ dst ≤ 47) ∧ 1 ≤ many ∧ many ≤ 48 - dst) ∧ r = -1000001 ∧ s' = s) ∨
  ((ISb s b ∧ 0 ≤ fO (mS s x) ∧ ((0 ≤ src ∧ src ≤ 47) ∧ 1 ≤ many ∧ many ≤ 48 - src) ∧ (0 ≤ dst ∧ dst ≤ 47) ∧ 1 ≤ many ∧ many ≤ 48 - dst) ∧ trS s (cpI (fun c => mc s (mS s x) c) (fun c => mc s (mS s (mh s b)) c) src dst many) b r s')
noncomputable def mgN (s : Int → Int) (b x : Int) : Int := sm 48 (fun c => b2i (mgX (mc s (mS s (cmM s x 16 (mh s b))) c) (mc s (mS s (mh s b)) c) (mc s (mS s x) c)))
noncomputable def mgF (s : Int → Int) (b x : Int) : Int → Int := fun c => mgC (mc s (mS s (cmM s x 16 (mh s b))) c) (mc s (mS s (mh s b)) c) (mc s (mS s x) c)
def qMe (s : Int → Int) (b x r : Int) (s' : Int → Int) : Prop :=
  (¬ (ISb s b ∧ 0 ≤ fO (mS s x)) ∧ r = -1000001 ∧ s' = s) ∨
  ((ISb s b ∧ 0 ≤ fO (mS s x)) ∧ ∃ (ra : Int) (sa : Int → Int), trS s (mgF s b x) b ra sa ∧ ((ra < 0 ∧ r = ra ∧ s' = sa) ∨ (0 ≤ ra ∧ r = mgN s b x ∧ s' = updI sa 4 (sa 4 + r))))
def qBr (s : Int → Int) (x r : Int) (s' : Int → Int) : Prop :=
  (¬ 0 ≤ fO (mS s x) ∧ r = -1000001 ∧ s' = s) ∨ (0 ≤ fO (mS s x) ∧ FBm s = -1 ∧ r = -1000003 ∧ s' = s) ∨ (0 ≤ fO (mS s x) ∧ 0 ≤ FBm s ∧ r = FBm s ∧ s' = updI s (6 + r) x)
def qLe (s : Int → Int) (b r : Int) (s' : Int → Int) : Prop :=
  (¬ ISb s b ∧ r = -1000001 ∧ s' = s) ∨ (ISb s b ∧ sm 4 (fun d => b2i (0 ≤ mh s d)) = 1 ∧ r = -1000002 ∧ s' = s) ∨ (ISb s b ∧ ¬ sm 4 (fun d => b2i (0 ≤ mh s d)) = 1 ∧ s' = updI s (6 + b) (-1) ∧ r = sm 4 (fun d => b2i (0 ≤ mh s' d)))
def qBa (s : Int → Int) (b r : Int) (s' : Int → Int) : Prop :=
  (¬ ISb s b ∧ r = -1000001 ∧ s' = s) ∨ (ISb s b ∧ mh s b = 0 ∧ r = -1000002 ∧ s' = s) ∨ (ISb s b ∧ ¬ mh s b = 0 ∧ r = gM s (mh s b) ∧ s' = updI s (6 + b) r)
def qSe (s : Int → Int) (what value r : Int) (s' : Int → Int) : Prop :=
  (¬ (what = 0 ∧ 0 ≤ value ∧ value ≤ 1) ∧ r = -1000001 ∧ s' = s) ∨ ((what = 0 ∧ 0 ≤ value ∧ value ≤ 1) ∧ r = s 5 ∧ s' = updI s 5 value)
theorem qFi_det {s s1 s2 : Int → Int} {b c m v r1 r2 : Int} (h1 : qFi s b c m v r1 s1) (h2 : qFi s b c m v r2 s2) : r1 = r2 ∧ s1 = s2 := by
  rcases h1 with ⟨a, rfl, rfl⟩ | ⟨a, g⟩
  · rcases h2 with ⟨_, rfl, rfl⟩ | ⟨a', _⟩
    · exact ⟨rfl, rfl⟩
    · exact absurd a' a
  · rcases h2 with ⟨a', _⟩ | ⟨_, g'⟩
    · exact absurd a a'
    · exact trS_det g g'
theorem qCo_det {s s1 s2 : Int → Int} {b x c d m r1 r2 : Int} (h1 : qCo s b x c d m r1 s1) (h2 : qCo s b x c d m r2 s2) : r1 = r2 ∧ s1 = s2 := by
  rcases h1 with ⟨a, rfl, rfl⟩ | ⟨a, g⟩
  · rcases h2 with ⟨_, rfl, rfl⟩ | ⟨a', _⟩
    · exact ⟨rfl, rfl⟩
    · exact absurd a' a
  · rcases h2 with ⟨a', _⟩ | ⟨_, g'⟩
    · exact absurd a a'
    · exact trS_det g g'
theorem qMe_det {s s1 s2 : Int → Int} {b x r1 r2 : Int} (h1 : qMe s b x r1 s1) (h2 : qMe s b x r2 s2) : r1 = r2 ∧ s1 = s2 := by
  rcases h1 with ⟨a, rfl, rfl⟩ | ⟨a, ra, sa, g, k⟩
  · rcases h2 with ⟨_, rfl, rfl⟩ | ⟨a', _⟩
    · exact ⟨rfl, rfl⟩
    · exact absurd a' a
  · rcases h2 with ⟨a', _⟩ | ⟨_, ra', sa', g', k'⟩
    · exact absurd a a'
    · obtain ⟨rfl, rfl⟩ := trS_det g g'
      rcases k with ⟨k0, rfl, rfl⟩ | ⟨k0, rfl, rfl⟩ <;> rcases k' with ⟨k1, rfl, rfl⟩ | ⟨k1, rfl, rfl⟩
      · exact ⟨rfl, rfl⟩
      · omega
      · omega
      · exact ⟨rfl, rfl⟩
theorem qBr_det {s s1 s2 : Int → Int} {x r1 r2 : Int} (h1 : qBr s x r1 s1) (h2 : qBr s x r2 s2) : r1 = r2 ∧ s1 = s2 := by
  rcases h1 with ⟨a, rfl, rfl⟩ | ⟨a, a2, rfl, rfl⟩ | ⟨a, a2, rfl, rfl⟩ <;> rcases h2 with ⟨b, rfl, rfl⟩ | ⟨b, b2, rfl, rfl⟩ | ⟨b, b2, rfl, rfl⟩
  all_goals first
    | exact ⟨rfl, rfl⟩
    | exact absurd a b
    | exact absurd b a
    | omega
theorem qLe_det {s s1 s2 : Int → Int} {x r1 r2 : Int} (h1 : qLe s x r1 s1) (h2 : qLe s x r2 s2) : r1 = r2 ∧ s1 = s2 := by
  rcases h1 with ⟨a, rfl, rfl⟩ | ⟨a, a2, rfl, rfl⟩ | ⟨a, a2, rfl, rfl⟩ <;> rcases h2 with ⟨b, rfl, rfl⟩ | ⟨b, b2, rfl, rfl⟩ | ⟨b, b2, rfl, rfl⟩
  all_goals first
    | exact ⟨rfl, rfl⟩
    | exact absurd a b
    | exact absurd b a
    | exact absurd a2 b2
    | exact absurd b2 a2
theorem qBa_det {s s1 s2 : Int → Int} {x r1 r2 : Int} (h1 : qBa s x r1 s1) (h2 : qBa s x r2 s2) : r1 = r2 ∧ s1 = s2 := by
  rcases h1 with ⟨a, rfl, rfl⟩ | ⟨a, a2, rfl, rfl⟩ | ⟨a, a2, rfl, rfl⟩ <;> rcases h2 with ⟨b, rfl, rfl⟩ | ⟨b, b2, rfl, rfl⟩ | ⟨b, b2, rfl, rfl⟩
  all_goals first
    | exact ⟨rfl, rfl⟩
    | exact absurd a b
    | exact absurd b a
    | exact absurd a2 b2
    | exact absurd b2 a2
theorem qSe_det {s s1 s2 : Int → Int} {x v r1 r2 : Int} (h1 : qSe s x v r1 s1) (h2 : qSe s x v r2 s2) : r1 = r2 ∧ s1 = s2 := by
  rcases h1 with ⟨a, rfl, rfl⟩ | ⟨a, rfl, rfl⟩ <;> rcases h2 with ⟨b, rfl, rfl⟩ | ⟨b, rfl, rfl⟩
  all_goals first
    | exact ⟨rfl, rfl⟩
    | exact absurd a b
    | exact absurd b a
theorem ISb.lt {s : Int → Int} {b : Int} (h : ISb s b) : b < 4 := by have := h.2.1; omega
theorem qFi_MV {s s' : Int → Int} {b c m v r : Int} (hM : MV s) (h : qFi s b c m v r s') : MV s' ∧ s' 1 ≤ s 1 + 1 := by
  rcases h with ⟨_, _, rfl⟩ | ⟨a, g⟩
  · exact ⟨hM, by omega⟩
  · exact trS_MV hM a.1.1 a.1.lt a.1.2.2 g
theorem qCo_MV {s s' : Int → Int} {b x c d m r : Int} (hM : MV s) (h : qCo s b x c d m r s') : MV s' ∧ s' 1 ≤ s 1 + 1 := by
  rcases h with ⟨_, _, rfl⟩ | ⟨a, g⟩
  · exact ⟨hM, by omega⟩
  · exact trS_MV hM a.1.1 a.1.lt a.1.2.2 g
theorem qMe_MV {s s' : Int → Int} {b x r : Int} (hM : MV s) (h : qMe s b x r s') : MV s' ∧ s' 1 ≤ s 1 + 1 := by
  rcases h with ⟨_, _, rfl⟩ | ⟨a, ra, sa, g, k⟩
  · exact ⟨hM, by omega⟩
  · have z := trS_MV hM a.1.1 a.1.lt a.1.2.2 g
    rcases k with ⟨_, _, rfl⟩ | ⟨_, _, rfl⟩
    · exact z
    · exact ⟨MV_4 z.1 _, by rw [updI_n (by decide)]; exact z.2⟩
theorem FBm_in {s : Int → Int} (h : 0 ≤ FBm s) : FBm s < 4 := (fnd_bd 4 (fun b => ¬ 0 ≤ mh s b) (by omega)).2
theorem qBr_MV {s s' : Int → Int} {x r : Int} (hM : MV s) (h : qBr s x r s') : MV s' ∧ s' 1 ≤ s 1 + 1 := by
  rcases h with ⟨a, rfl, rfl⟩ | ⟨a, a2, rfl, rfl⟩ | ⟨a, a2, rfl, rfl⟩
  · exact ⟨hM, by omega⟩
  · exact ⟨hM, by omega⟩
  · exact ⟨MV_h hM a2 (FBm_in a2) (Or.inr (fO_nn.mp a)), by rw [updI_n (by omega)]; omega⟩
theorem qLe_MV {s s' : Int → Int} {x r : Int} (hM : MV s) (h : qLe s x r s') : MV s' ∧ s' 1 ≤ s 1 + 1 := by
  rcases h with ⟨a, rfl, rfl⟩ | ⟨a, a2, rfl, rfl⟩ | ⟨a, a2, rfl, rfl⟩
  · exact ⟨hM, by omega⟩
  · exact ⟨hM, by omega⟩
  · exact ⟨MV_h hM a.1 a.lt (Or.inl rfl), by rw [updI_n (by have := a.1; omega)]; omega⟩
theorem qBa_MV {s s' : Int → Int} {x r : Int} (hM : MV s) (h : qBa s x r s') : MV s' ∧ s' 1 ≤ s 1 + 1 := by
  rcases h with ⟨a, rfl, rfl⟩ | ⟨a, a2, rfl, rfl⟩ | ⟨a, a2, rfl, rfl⟩
  · exact ⟨hM, by omega⟩
  · exact ⟨hM, by omega⟩
  · have z := a.sl hM
    exact ⟨MV_h hM a.1 a.lt (Or.inr (hM.i.par z.1 (by have := a.2.2; omega)).1), by rw [updI_n (by have := a.1; omega)]; omega⟩
theorem qSe_MV {s s' : Int → Int} {x v r : Int} (hM : MV s) (h : qSe s x v r s') : MV s' ∧ s' 1 ≤ s 1 + 1 := by
  rcases h with ⟨a, rfl, rfl⟩ | ⟨a, rfl, rfl⟩
  · exact ⟨hM, by omega⟩
  · exact ⟨hM.cg5 (fun j b _ => updI_n (by omega)) (by rw [updI_s]; omega), by rw [updI_n (by decide)]; omega⟩
