/-! ===== the numbers at the start ===== -/
def s0I : Int → Int := updI (updI (updI (updI (updI (updI (updI (updI (updI (fun _ => 0) 0 1) 1 1) 2 1) 5 1) 7 (-1)) 8 (-1)) 9 (-1)) 11 (-1)) 138 1
def V0 : Vt := fun r _ => match r with
  | 0 => updI (fun _ => 0) 4 1
  | 1 => updI (fun _ => 0) 2 1
  | 3 => updI (fun _ => 0) 0 6
  | 4 => updI (updI (fun _ => 0) 3 1) 4 1
  | 6 => updI (fun _ => 0) 0 (-1)
  | 8 => updI (updI (updI (fun _ => 0) 1 (-1)) 2 (-1)) 3 (-1)
  | 17 => s0I
  | _ => fun _ => 0
theorem s0_at (j : Int) : s0I j = if j = 138 then 1 else if j = 11 then -1 else if j = 9 then -1 else if j = 8 then -1 else if j = 7 then -1 else if j = 5 then 1 else if j = 2 then 1 else if j = 1 then 1 else if j = 0 then 1 else 0 := rfl
theorem s0_z {j : Int} (h : j ≠ 0 ∧ j ≠ 1 ∧ j ≠ 2 ∧ j ≠ 5 ∧ j ≠ 7 ∧ j ≠ 8 ∧ j ≠ 9 ∧ j ≠ 11 ∧ j ≠ 138) : s0I j = 0 := by
  rw [s0_at]
  repeat' split
  all_goals omega
theorem s0_mo {k j : Int} (k0 : 0 ≤ k) (k1 : k < 16) (j0 : 2 ≤ j) (j1 : j < 8) : mo s0I k j = 0 := s0_z (by omega)
theorem s0_00 : mo s0I 0 0 = 0 := rfl
theorem s0_01 : mo s0I 0 1 = -1 := rfl
theorem s0_f {d : Int} (d0 : 0 ≤ d) (d1 : d < 40) : mf s0I d = if d = 0 then 1 else 0 := by
  by_cases h : d = 0
  · subst h; rfl
  · rw [if_neg h]; exact s0_z (by omega)
theorem s0_pw (b : Int) : pwM s0I b = if b = 0 then 6 else 0 := by
  have e : pwM s0I b = sm 1 (fun k => sm 6 (fun p => b2i (mo s0I k (2 + p) = b))) := rfl
  have e2 : sm 6 (fun p => b2i (mo s0I 0 (2 + p) = b)) = sm 6 (fun _ => b2i ((0 : Int) = b)) := sm_congr (fun p p0 p1 => by rw [s0_mo (by omega) (by omega) (by omega) (by omega)])
  have e3 : sm 6 (fun _ => b2i ((0 : Int) = b)) = 0 + b2i ((0 : Int) = b) + b2i ((0 : Int) = b) + b2i ((0 : Int) = b) + b2i ((0 : Int) = b) + b2i ((0 : Int) = b) + b2i ((0 : Int) = b) := rfl
  have e1 : sm 1 (fun k => sm 6 (fun p => b2i (mo s0I k (2 + p) = b))) = 0 + sm 6 (fun p => b2i (mo s0I 0 (2 + p) = b)) := rfl
  rw [e, e1, e2, e3]
  by_cases h : b = 0
  · rw [if_pos h, b2i_t (show (0 : Int) = b from h.symm)]; rfl
  · rw [if_neg h, b2i_f (show ¬ (0 : Int) = b from fun z => h z.symm)]; rfl
theorem s0_MV : MV s0I := by
  have e0 : s0I 0 = 1 := rfl
  have e1 : s0I 1 = 1 := rfl
  have hS : 0 ≤ mS s0I 0 := mS_ex (k := 0) (by omega) (by omega) s0_00
  refine ⟨⟨s0_00, s0_01, fun i j i0 ij jn => ?_, fun k k0 kn => ?_, by omega, by omega⟩, fun k p k0 k1 p0 p1 => ?_, fun d d0 d1 => ?_, fun k p k0 k1 p0 p1 => ?_, fun b b0 b1 => ?_, fun k k0 k1 => ?_, Or.inr rfl, fun d d0 d1 h => ?_⟩
  · omega
  · omega
  · rw [s0_mo k0 k1 (by omega) (by omega)]; omega
  · rw [s0_f d0 d1]; split <;> omega
  · rw [s0_mo k0 (by omega) (by omega) (by omega)]; rfl
  · rcases (show b = 0 ∨ b = 1 ∨ b = 2 ∨ b = 3 by omega) with rfl | rfl | rfl | rfl
    · exact Or.inr ⟨by show (0 : Int) ≤ 0; omega, hS⟩
    · exact Or.inl rfl
    · exact Or.inl rfl
    · exact Or.inl rfl
  · rw [show k = 0 by omega, s0_00]; omega
  · rw [s0_f d0 d1] at h
    rw [s0_pw]
    split at h
    · rename_i z
      rw [if_pos z]; omega
    · omega
theorem V0_RW (w : Nat) : RW V0 w s0I := by
  refine ⟨s0_MV, rfl, rfl, rfl, rfl, rfl, rfl, fun b b0 b1 => ?_, fun k k0 k1 => ?_, fun k p k0 k1 p0 p1 => ?_, fun b c b0 b1 c0 c1 => ?_, fun b b0 b1 => ?_, fun j hj => ?_, fun j => ?_⟩
  · rcases (show b = 0 ∨ b = 1 ∨ b = 2 ∨ b = 3 by omega) with rfl | rfl | rfl | rfl <;> rfl
  · have e0 : s0I 0 = 1 := rfl
    rw [show k = 0 by omega]
    exact ⟨rfl, rfl⟩
  · have e0 : s0I 0 = 1 := rfl
    rw [s0_mo k0 (by omega) (by omega) (by omega)]; rfl
  · exact (s0_z (by omega)).symm
  · rw [s0_pw]; rfl
  · show updI (fun _ => 0) 0 6 j = 0
    rw [updI_n (by omega)]
  · show (0 : Int) ≤ 0 ∧ (0 : Int) < 40
    omega
theorem V0_BV : BV V0 := by
  intro r w j _
  unfold V0
  split
  all_goals simp only [s0I, updI]
  all_goals repeat' split
  all_goals omega
theorem V0_LI : LI (fun j => j) V0 0 := by
  refine ⟨V0_BV, ⟨fun i hi => hi, fun i j _ _ h => h⟩, ?_, ?_, V0_RW 0, rfl, rfl, rfl, ?_, fun j _ _ => rfl, fun i i0 i1 => ?_, fun j _ _ _ => ?_, ?_⟩
  · show (0 : Int) ≤ 0 ∧ (0 : Int) < 4; omega
  · show (0 : Int) ≤ 0 ∧ (0 : Int) ≤ 4; omega
  · show (0 : Int) ≤ 0 ∧ (0 : Int) ≤ 60; omega
  · exact absurd (show i < 0 from i1) (by omega)
  · show inR 0; omega
  · show (1 : Int) ≤ 1 + 100 * ((0 : Nat) : Int); omega
