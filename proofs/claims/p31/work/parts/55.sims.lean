/-! ===== each change of the class is the reference's step ===== -/
theorem fillQ_sim {V V' : Vt} {w : Nat} {s : Int → Int} {b c m v r : Int} (hR : RW V w s) (h : fillQ V w b c m v r V') : ∃ s', qFi s b c m v r s' ∧ (0 ≤ r → RW V' w s') := by
  have hi := hR.hs_iff b
  rcases h with ⟨rfl, h⟩ | ⟨hp, h⟩
  · exact ⟨s, Or.inl ⟨fun z => h ⟨hi.mpr z.1, by omega, by omega⟩, rfl, rfl⟩, fun z => absurd z (by omega)⟩
  · have hb := hi.mp hp.1
    have hsl := hb.sl hR.m
    rw [hR.hs_t hb] at h
    have hR' : RW (up V 9 w (flI (fun c => cA (V 2 w) (V 7 w) (mS s (mh s b)) c) c m v)) w s := hR.cg (fun r hr => by rw [up_r (by omega)])
    obtain ⟨s', h1, h2⟩ := adO_sim (ce := flI (fun c => mc s (mS s (mh s b)) c) c m v) hR' hb (fun j j0 j1 => by
      rw [up_s]
      unfold flI
      by_cases hj : c ≤ j ∧ j < c + m
      · rw [if_pos hj, if_pos hj]
      · rw [if_neg hj, if_neg hj]; exact hR.cell hsl.1 hsl.2.1 j0 j1) h
    exact ⟨s', Or.inr ⟨⟨hb, by omega, by omega⟩, h1⟩, h2⟩
theorem copyQ_sim {V V' : Vt} {w : Nat} {s : Int → Int} {b x src dst m r : Int} (hR : RW V w s) (h : copyQ V w b x src dst m r V') : ∃ s', qCo s b x src dst m r s' ∧ (0 ≤ r → RW V' w s') := by
  have hi := hR.hs_iff b
  have hf := fO_nn (x := mS s x)
  unfold copyQ at h
  rw [hR.slot x] at h
  rcases h with ⟨rfl, h⟩ | ⟨hp, h⟩
  · exact ⟨s, Or.inl ⟨fun z => h ⟨hi.mpr z.1, hf.mp z.2.1, by omega, by omega⟩, rfl, rfl⟩, fun z => absurd z (by omega)⟩
  · have hb := hi.mp hp.1
    have hsl := hb.sl hR.m
    have hx := mS_in hp.2.1
    rw [hR.hs_t hb] at h
    have hR' : RW (up V 9 w (cpI (fun c => cA (V 2 w) (V 7 w) (mS s x) c) (fun c => cA (V 2 w) (V 7 w) (mS s (mh s b)) c) src dst m)) w s := hR.cg (fun r hr => by rw [up_r (by omega)])
    obtain ⟨s', h1, h2⟩ := adO_sim (ce := cpI (fun c => mc s (mS s x) c) (fun c => mc s (mS s (mh s b)) c) src dst m) hR' hb (fun j j0 j1 => by
      rw [up_s]
      unfold cpI
      by_cases hj : dst ≤ j ∧ j < dst + m
      · rw [if_pos hj, if_pos hj]; exact hR.cell hp.2.1 hx.1 (by omega) (by omega)
      · rw [if_neg hj, if_neg hj]; exact hR.cell hsl.1 hsl.2.1 j0 j1) h
    exact ⟨s', Or.inr ⟨⟨hb, hf.mpr hp.2.1, by omega, by omega⟩, h1⟩, h2⟩
theorem mgX_eq {V : Vt} {w : Nat} {s : Int → Int} {b x c : Int} (hR : RW V w s) (hb : ISb s b) (hx : 0 ≤ mS s x) (c0 : 0 ≤ c) (c1 : c < 48) :
    cA (V 2 w) (V 7 w) (cmS (pS (V 4 w 3) (V 5 w) (V 6 w)) 32 (mS s (mh s b)) (mS s x)) c = mc s (mS s (cmM s x 16 (mh s b))) c ∧ cA (V 2 w) (V 7 w) (mS s (mh s b)) c = mc s (mS s (mh s b)) c ∧ cA (V 2 w) (V 7 w) (mS s x) c = mc s (mS s x) c := by
  have hsl := hb.sl hR.m
  have hxx := mS_in hx
  have hc := hR.cms hb hx
  rw [hc.1]
  exact ⟨hR.cell hc.2 (mS_in hc.2).1 c0 c1, hR.cell hsl.1 hsl.2.1 c0 c1, hR.cell hx hxx.1 c0 c1⟩
theorem mgN_eq {V : Vt} {w : Nat} {s : Int → Int} {b x : Int} (hR : RW V w s) (hb : ISb s b) (hx : 0 ≤ mS s x) :
    sm 48 (fun c => b2i (mgX (cA (V 2 w) (V 7 w) (cmS (pS (V 4 w 3) (V 5 w) (V 6 w)) 32 (mS s (mh s b)) (mS s x)) c) (cA (V 2 w) (V 7 w) (mS s (mh s b)) c) (cA (V 2 w) (V 7 w) (mS s x) c))) = mgN s b x := by
  unfold mgN
  refine sm_congr (fun c c0 c1 => ?_)
  have z := mgX_eq hR hb hx c0 c1
  rw [z.1, z.2.1, z.2.2]
theorem mergeQ_sim {V V' : Vt} {w : Nat} {s : Int → Int} {b x r : Int} (hR : RW V w s) (h : mergeQ V w b x r V') : ∃ s', qMe s b x r s' ∧ (0 ≤ r → RW V' w s') := by
  have hi := hR.hs_iff b
  have hf := fO_nn (x := mS s x)
  unfold mergeQ at h
  rw [hR.slot x] at h
  rcases h with ⟨rfl, h⟩ | ⟨hp, ra, Va, h, hk⟩
  · exact ⟨s, Or.inl ⟨fun z => h ⟨hi.mpr z.1, hf.mp z.2⟩, rfl, rfl⟩, fun z => absurd z (by omega)⟩
  · have hb := hi.mp hp.1
    rw [hR.hs_t hb] at h hk
    rw [mgN_eq hR hb hp.2] at hk
    have hR' : RW (up V 9 w (fun c => mgC (cA (V 2 w) (V 7 w) (cmS (pS (V 4 w 3) (V 5 w) (V 6 w)) 32 (mS s (mh s b)) (mS s x)) c) (cA (V 2 w) (V 7 w) (mS s (mh s b)) c) (cA (V 2 w) (V 7 w) (mS s x) c))) w s := hR.cg (fun r hr => by rw [up_r (by omega)])
    obtain ⟨sa, h1, h2⟩ := adO_sim (ce := mgF s b x) hR' hb (fun j j0 j1 => by
      rw [up_s]
      have z := mgX_eq hR hb hp.2 j0 j1
      unfold mgF
      rw [z.1, z.2.1, z.2.2]) h
    rcases hk with ⟨k0, rfl⟩ | ⟨k0, rfl, rfl⟩
    · exact ⟨sa, Or.inr ⟨⟨hb, hf.mpr hp.2⟩, r, sa, h1, Or.inl ⟨k0, rfl, rfl⟩⟩, fun z => absurd z (by omega)⟩
    · exact ⟨_, Or.inr ⟨⟨hb, hf.mpr hp.2⟩, ra, sa, h1, Or.inr ⟨k0, rfl, rfl⟩⟩, fun _ => RW_4 (h2 k0) _⟩
theorem addBQ_sim {V V' : Vt} {w : Nat} {s : Int → Int} {x r : Int} (hR : RW V w s) (h : addBQ V w x r V') : ∃ s', qBr s x r s' ∧ (0 ≤ r → RW V' w s') := by
  have hf := fO_nn (x := mS s x)
  have hF : fnd 4 (fun b => V 8 w b = -1) = FBm s := fnd_congr (fun b b0 b1 => by
    rw [hR.hd b b0 b1]
    have := hR.m.h b b0 b1
    omega)
  unfold addBQ at h
  rw [hR.slot x, hF] at h
  rcases h with ⟨rfl, h, rfl⟩ | ⟨h0, h1, rfl, rfl⟩ | ⟨h0, h1, rfl, rfl⟩
  · exact ⟨s, Or.inl ⟨fun z => absurd (hf.mp z) (by omega), rfl, rfl⟩, fun z => absurd z (by omega)⟩
  · exact ⟨s, Or.inr (Or.inl ⟨hf.mpr h0, h1, rfl, rfl⟩), fun z => absurd z (by omega)⟩
  · exact ⟨_, Or.inr (Or.inr ⟨hf.mpr h0, h1, rfl, rfl⟩), fun _ => RW_h hR h1 (FBm_in h1) (Or.inr h0)⟩
theorem heads_sum {V : Vt} {w : Nat} {s : Int → Int} (hR : RW V w s) : sm 4 (fun b => b2i (¬ V 8 w b = -1)) = sm 4 (fun d => b2i (0 ≤ mh s d)) := sm_congr (fun b b0 b1 => b2i_iff (by
  rw [hR.hd b b0 b1]
  have := hR.m.h b b0 b1
  omega))
theorem dropQ_sim {V V' : Vt} {w : Nat} {s : Int → Int} {b r : Int} (hR : RW V w s) (h : dropQ V w b r V') : ∃ s', qLe s b r s' ∧ (0 ≤ r → RW V' w s') := by
  unfold dropQ at h
  rw [hR.b_iff b, heads_sum hR] at h
  rcases h with ⟨rfl, h, rfl⟩ | ⟨h0, h1, rfl, rfl⟩ | ⟨h0, h1, rfl, rfl⟩
  · exact ⟨s, Or.inl ⟨h, rfl, rfl⟩, fun z => absurd z (by omega)⟩
  · exact ⟨s, Or.inr (Or.inl ⟨h0, h1, rfl, rfl⟩), fun z => absurd z (by omega)⟩
  · have hR' := RW_h (x := -1) hR h0.1 h0.lt (Or.inl rfl)
    exact ⟨_, Or.inr (Or.inr ⟨h0, h1, rfl, heads_sum hR'⟩), fun _ => hR'⟩
theorem backQ_sim {V V' : Vt} {w : Nat} {s : Int → Int} {b r : Int} (hR : RW V w s) (h : backQ V w b r V') : ∃ s', qBa s b r s' ∧ (0 ≤ r → RW V' w s') := by
  have hi := hR.hs_iff b
  rcases h with ⟨rfl, h, rfl⟩ | ⟨h0, rfl, rfl⟩ | ⟨h0, rfl, rfl⟩
  · exact ⟨s, Or.inl ⟨fun z => absurd (hi.mpr z) (by omega), rfl, rfl⟩, fun z => absurd z (by omega)⟩
  · have hb := hi.mp (by omega)
    have hsl := hb.sl hR.m
    rw [hR.hs_t hb] at h0
    have := hR.m.i.nn hsl.1
    exact ⟨s, Or.inr (Or.inl ⟨hb, by have := hb.2.2; omega, rfl, rfl⟩), fun z => absurd z (by omega)⟩
  · have hb := hi.mp (by omega)
    have hsl := hb.sl hR.m
    rw [hR.hs_t hb] at h0 ⊢
    have hn := hR.m.i.nn hsl.1
    have hp := hR.m.i.par hsl.1 (by omega)
    rw [(hR.st _ hsl.1 hsl.2.1).2]
    exact ⟨_, Or.inr (Or.inr ⟨hb, by omega, rfl, rfl⟩), fun _ => RW_h hR hb.1 hb.lt (Or.inr hp.1)⟩
theorem setQ_sim {V V' : Vt} {w : Nat} {s : Int → Int} {a v r : Int} (hR : RW V w s) (h : setQ V w a v r V') : ∃ s', qSe s a v r s' ∧ (0 ≤ r → RW V' w s') := by
  rcases h with ⟨rfl, h, rfl⟩ | ⟨h, rfl, rfl⟩
  · exact ⟨s, Or.inl ⟨by omega, rfl, rfl⟩, fun z => absurd z (by omega)⟩
  · refine ⟨_, Or.inr ⟨by omega, hR.c5, rfl⟩, fun _ => ?_⟩
    have hq : qSe s a v (s 5) (updI s 5 v) := Or.inr ⟨by omega, rfl, rfl⟩
    have em : ∀ k j, 0 ≤ k → 0 ≤ j → mo (updI s 5 v) k j = mo s k j := fun k j a c => updI_n (by omega)
    refine ⟨(qSe_MV hR.m hq).1, hR.n0, hR.n1, hR.c2, hR.c3, ?_, ?_, fun b a c => ?_, fun k a c => ?_, fun k p a c p0 p1 => ?_, fun b c b0 b1 c0 c1 => ?_, fun b b0 b1 => ?_, hR.uo, hR.L⟩
    · rw [up_s, updI_n (by decide), updI_n (by decide)]; exact hR.c4
    · rw [up_s, updI_s, updI_s]
    · rw [show mh (updI s 5 v) b = mh s b from updI_n (by omega)]; exact hR.hd b a c
    · rw [em k 0 a (by omega), em k 1 a (by omega)]; exact hR.st k a c
    · rw [em k (2 + p) a (by omega)]; exact hR.pl k p a c p0 p1
    · rw [show mb (updI s 5 v) b c = mb s b c from updI_n (by omega)]; exact hR.bc b c b0 b1 c0 c1
    · have ep : pwM (updI s 5 v) b = pwM s b := sm_congr (fun k a b => sm_congr (fun p c d => by rw [em k (2 + p) a (by omega)]))
      rw [ep]; exact hR.us b b0 b1
/-! forget -/
theorem sm_gone {n : Int} {f g : Int → Int} (h : ∀ j, 0 ≤ j → j < n → 0 ≤ g j ∧ g j ≤ f j) : sm n (fun j => b2i (0 < f j)) - sm n (fun j => b2i (0 < g j)) = sm n (fun j => b2i (0 < f j ∧ g j = 0)) := by
  have e : sm n (fun j => b2i (0 < f j)) = sm n (fun j => b2i (0 < g j) + b2i (0 < f j ∧ g j = 0)) := sm_congr (fun j j0 j1 => by
    have z := h j j0 j1
    by_cases a : 0 < g j
    · rw [b2i_t (show 0 < f j by omega), b2i_t a, b2i_f (by omega)]; rfl
    · by_cases b : 0 < f j
      · rw [b2i_t b, b2i_f a, b2i_t (by omega)]; rfl
      · rw [b2i_f b, b2i_f a, b2i_f (by omega)]; rfl)
  rw [e, sm_add]; omega
theorem bits_z {n : Int} {p : Int → Prop} : bits n p = 0 ↔ ∀ j, 0 ≤ j → j < n → ¬ p j := by
  have h2 : ∀ j : Int, (0 : Int) < 2 ^ j.toNat := fun j => Int.pow_pos (by omega)
  have hn : ∀ j : Int, 0 ≤ j → j < n → 0 ≤ b2i (p j) * 2 ^ j.toNat := fun j _ _ => Int.mul_nonneg (b2i_b _).1 (Int.le_of_lt (h2 j))
  have hp := sm_pos hn
  have h0 : 0 ≤ bits n p := sm_nn hn
  have e : bits n p = sm n (fun i => b2i (p i) * 2 ^ i.toNat) := rfl
  constructor
  · intro z j a b c
    have := hp.mpr ⟨j, a, b, by rw [b2i_t c, Int.one_mul]; exact h2 j⟩
    omega
  · intro z
    rcases Int.lt_or_le 0 (bits n p) with q | q
    · obtain ⟨j, a, b, c⟩ := hp.mp (by omega)
      rw [b2i_f (z j a b), Int.zero_mul] at c
      omega
    · omega
/-- a state may go: both say so alike -/
theorem RW.can {V : Vt} {w : Nat} {s : Int → Int} (hR : RW V w s) {x : Int} (hx : 0 ≤ mS s x) : (0 < mS s x ∧ bits 4 (fun b => V 8 w b = V 5 w (mS s x)) = 0) ↔ (0 < x ∧ ∀ d, 0 ≤ d → d < 4 → ¬ mh s d = x) := by
  have hxx := mS_in hx
  have hn := hR.m.i.nn hx
  rw [bits_z, (hR.st _ hx hxx.1).1, hxx.2, ← hn.2.2]
  constructor
  · rintro ⟨a, b⟩; exact ⟨a, fun d d0 d1 => by rw [← hR.hd d d0 d1]; exact b d d0 d1⟩
  · rintro ⟨a, b⟩; exact ⟨a, fun d d0 d1 => by rw [hR.hd d d0 d1]; exact b d d0 d1⟩
theorem RW.pl6 {V : Vt} {w : Nat} {s : Int → Int} (hR : RW V w s) {k : Int} (k0 : 0 ≤ k) (k1 : k < s 0) (b : Int) : sm 6 (fun p => b2i (V 7 w (k * 6 + p) = b)) = sm 6 (fun p => b2i (mo s k (2 + p) = b)) := sm_congr (fun p p0 p1 => by rw [hR.pl k p k0 k1 p0 p1])
theorem rmV_rows {V : Vt} {w : Nat} {a : Int} {U : Int → Int} : (rmV (up V 3 w U) w a) 3 w = U ∧ (rmV (up V 3 w U) w a) 4 w = updI (V 4 w) 3 (V 4 w 3 - 1) ∧ (rmV (up V 3 w U) w a) 5 w = cpI (V 5 w) (V 5 w) (a + 1) a (V 4 w 3 - a - 1) ∧
    (rmV (up V 3 w U) w a) 6 w = cpI (reP (V 6 w) (V 5 w) a (V 4 w 3)) (reP (V 6 w) (V 5 w) a (V 4 w 3)) (a + 1) a (V 4 w 3 - a - 1) ∧ (rmV (up V 3 w U) w a) 7 w = cpI (V 7 w) (V 7 w) ((a + 1) * 6) (a * 6) ((V 4 w 3 - a - 1) * 6) ∧
    (rmV (up V 3 w U) w a) 0 w = V 0 w ∧ (rmV (up V 3 w U) w a) 1 w = V 1 w ∧ (rmV (up V 3 w U) w a) 2 w = V 2 w ∧ (rmV (up V 3 w U) w a) 8 w = V 8 w := by
  unfold rmV
  refine ⟨?_, ?_, ?_, ?_, ?_, ?_, ?_, ?_, ?_⟩ <;> simp [up_s, up_r]
theorem forgetQ_sim {V V' : Vt} {w : Nat} {s : Int → Int} {x r : Int} (hR : RW V w s) (h : forgetQ V w x r V') : ∃ s', qFo s x r s' ∧ (0 ≤ r → RW V' w s') := by
  have hf := fO_nn (x := mS s x)
  unfold forgetQ at h
  rw [hR.slot x] at h
  rcases h with ⟨rfl, h, rfl⟩ | ⟨h0, h1, rfl, rfl⟩ | ⟨h0, rfl, rfl⟩
  · exact ⟨s, Or.inl ⟨fun z => absurd (hf.mp z) (by omega), rfl, rfl⟩, fun z => absurd z (by omega)⟩
  · rw [hR.can h0] at h1
    exact ⟨s, Or.inr (Or.inl ⟨hf.mpr h0, h1, rfl, rfl⟩), fun z => absurd z (by omega)⟩
  · have hx : 0 ≤ mS s x := by have := h0.1; omega
    rw [hR.can hx] at h0
    have hG : FG s x := ⟨hR.m, hx, h0⟩
    have ha := hG.a
    have hM := hR.m
    have hz := hM.z
    have e0 : fgX s x 0 = s 0 - 1 := fgM_0 hx
    have hlo : ∀ j, j ≠ 0 → j < 10 → fgX s x j = s j := fun j a b => fg_lo hx a b
    have hhi : ∀ j, 138 ≤ j → fgX s x j = s j := fun j a => fg_hi hz.2 a
    have hff : ∀ d, 0 ≤ d → mf (fgX s x) d = mf s d := fun d d0 => hhi _ (by omega)
    have hu16 : fgX s x 0 ≤ 16 := by omega
    have hpw : ∀ d, pwM (fgX s x) d + sm 6 (fun p => b2i (mo s (mS s x) (2 + p) = d)) = pwM s d := fun d => fg_pw hx ha.2.1 d
    obtain ⟨E3, E4, E5, E6, E7, E0, E1, E2, E8⟩ := rmV_rows (V := V) (w := w) (a := mS s x) (U := fun b => V 3 w b - sm 6 (fun p => b2i (V 7 w (mS s x * 6 + p) = b)))
    generalize rmV (up V 3 w (fun b => V 3 w b - sm 6 (fun p => b2i (V 7 w (mS s x * 6 + p) = b)))) w (mS s x) = V' at *
    have R3 : ∀ d, 0 ≤ d → d < 40 → V' 3 w d = pwM (fgX s x) d := fun d d0 d1 => by
      rw [E3]
      show V 3 w d - sm 6 (fun p => b2i (V 7 w (mS s x * 6 + p) = d)) = _
      rw [hR.pl6 hx ha.2.1, hR.us d d0 d1]
      have := hpw d
      omega
    refine ⟨_, Or.inr (Or.inr ⟨hf.mpr hx, h0, ?_, rfl⟩), fun _ => ?_⟩
    · rw [sm_gone (fun j j0 j1 => ⟨by rw [R3 j j0 j1]; exact pwM_nn, by
        rw [R3 j j0 j1, hR.us j j0 j1]
        have := hpw j
        have := sm_nn (n := 6) (f := fun p => b2i (mo s (mS s x) (2 + p) = j)) (fun p _ _ => (b2i_b _).1)
        omega⟩)]
      refine sm_congr (fun j j0 j1 => b2i_iff ?_)
      rw [R3 j j0 j1, hR.us j j0 j1, hff j j0, hM.p j0 j1]
    · have F5 : ∀ k, 0 ≤ k → k < s 0 - 1 → V' 5 w k = V 5 w (sgK (mS s x) k) := fun k k0 k1 => by
        rw [E5, hR.n0]
        unfold cpI
        rcases Int.lt_or_le k (mS s x) with q | q
        · rw [if_neg (by omega), sgK_lt q]
        · rw [if_pos (by omega), sgK_ge q]; congr 1; omega
      have F6 : ∀ k, 0 ≤ k → k < s 0 - 1 → V' 6 w k = reP (V 6 w) (V 5 w) (mS s x) (s 0) (sgK (mS s x) k) := fun k k0 k1 => by
        rw [E6, hR.n0]
        unfold cpI
        rcases Int.lt_or_le k (mS s x) with q | q
        · rw [if_neg (by omega), sgK_lt q]
        · rw [if_pos (by omega), sgK_ge q]; congr 1; omega
      have F7 : ∀ k p, 0 ≤ k → k < s 0 - 1 → 0 ≤ p → p < 6 → V' 7 w (k * 6 + p) = V 7 w (sgK (mS s x) k * 6 + p) := fun k p k0 k1 p0 p1 => by
        rw [E7, hR.n0]
        unfold cpI
        rcases Int.lt_or_le k (mS s x) with q | q
        · rw [if_neg (by omega), sgK_lt q]
        · rw [if_pos (by omega), sgK_ge q]; congr 1; omega
      have E7L : ∀ j, 0 ≤ V' 7 w j ∧ V' 7 w j < 40 := fun j => by
        rw [E7]
        unfold cpI
        split <;> exact hR.L _
      have EO : ∀ j, ¬ (0 ≤ j ∧ j < 40) → V' 3 w j = 0 := fun j hj => by
        rw [E3]
        show V 3 w j - sm 6 (fun p => b2i (V 7 w (mS s x * 6 + p) = j)) = 0
        rw [hR.uo j hj, sm_b2i_0.mpr (fun p p0 p1 z => by have := hR.L (mS s x * 6 + p); omega)]; rfl
      have s0 : swS (fgX s x) 40 0 = s 0 - 1 := by rw [sw_lo (by omega), e0]
      have slo : ∀ j, j ≠ 0 → j < 10 → swS (fgX s x) 40 j = s j := fun j a b => by rw [sw_lo (by omega), hlo j a b]
      refine ⟨MV_sw (fgX_MVp hG), ?_, ?_, ?_, ?_, ?_, ?_, fun b a c => ?_, fun k a c => ?_, fun k p a c p0 p1 => ?_, fun b c b0 b1 c0 c1 => ?_, fun b b0 b1 => ?_, EO, E7L⟩
      · rw [E4, updI_s, s0, hR.n0]
      · rw [E4, updI_n (by decide), slo 1 (by omega) (by omega)]; exact hR.n1
      · rw [E1, slo 2 (by omega) (by omega)]; exact hR.c2
      · rw [E1, slo 3 (by omega) (by omega)]; exact hR.c3
      · rw [E0, slo 4 (by omega) (by omega)]; exact hR.c4
      · rw [E0, slo 5 (by omega) (by omega)]; exact hR.c5
      · rw [E8, show mh (swS (fgX s x) 40) b = mh s b from slo _ (by omega) (by omega)]; exact hR.hd b a c
      · rw [s0] at c
        have hb := sgK_bd (n := s 0) (k := k) a c hx
        have hs := hR.st _ hb.1 hb.2.1
        rw [F5 k a c, F6 k a c, sw_mo a (by omega) (by omega), sw_mo a (by omega) (by omega), fgX_num hG a c, fgX_mo hG a c (by omega) (by omega), hs.1]
        refine ⟨rfl, ?_⟩
        unfold reP
        rw [hs.2, (hR.st _ hx ha.2.1).1, (hR.st _ hx ha.2.1).2, ha.2.2]
        by_cases hp : mo s (sgK (mS s x) k) 1 = x
        · rw [if_pos (show (1 : Int) = 1 ∧ mo s (sgK (mS s x) k) 1 = x from ⟨rfl, hp⟩)]
          refine if_pos ⟨?_, hb.2.1, hp⟩
          rcases Int.lt_trichotomy (mS s x) (sgK (mS s x) k) with q | q | q
          · exact q
          · exact absurd q.symm hb.2.2.1
          · exfalso
            have o1 := hM.i.2.2.1 _ _ hb.1 q ha.2.1
            rcases Int.lt_or_le 0 (sgK (mS s x) k) with q2 | q2
            · have o2 := (hM.i.2.2.2.1 _ q2 hb.2.1).2
              omega
            · have e : sgK (mS s x) k = 0 := by omega
              rw [e, hM.i.2.1] at hp
              have := h0.1
              omega
        · rw [if_neg (show ¬ ((1 : Int) = 1 ∧ mo s (sgK (mS s x) k) 1 = x) from fun y => hp y.2)]
          exact if_neg (fun y => hp y.2.2)
      · rw [s0] at c
        have hb := sgK_bd (n := s 0) (k := k) a c hx
        rw [F7 k p a c p0 p1, sw_mo a (by omega) (by omega), fgX_pl hG a c p0 p1]
        exact hR.pl _ p hb.1 hb.2.1 p0 p1
      · rw [E2, sw_mb c0 c1, show mb (fgX s x) b c = mb s b c from hhi _ (by omega)]; exact hR.bc b c b0 b1 c0 c1
      · rw [R3 b b0 b1, sw_pw hu16]
