/-! ===== the numbers at the start ===== -/
def s0I : Int → Int := updI (updI (updI (updI (updI (updI (updI (updI (updI (fun _ => 0) 0 1) 1 1) 2 1) 5 1) 7 (-1)) 8 (-1)) 9 (-1)) 11 (-1)) 138 1
def V0 : Vt := fun r _ => match r with
  | 0 => updI (fun _ => 0) 4 1
  | 1 => updI (fun _ => 0) 2 1
  | 3 => updI (fun _ => 0) 0 6
  | 4 => updI (updI (fun _ => 0) 3 1) 4 1
  | 6 => updI (fun _ => 0) 0 (-1)
  | 8 => updI (updI (updI (fun _ => 0) 1 (-1)) 2 (-1)) 3 (-1)
  | _ => fun _ => 0
theorem s0_at (j : Int) : s0I j = if j = 138 then 1 else if j = 11 then -1 else if j = 9 then -1 else if j = 8 then -1 else if j = 7 then -1 else if j = 5 then 1 else if j = 2 then 1 else if j = 1 then 1 else if j = 0 then 1 else 0 := rfl
theorem s0_z {j : Int} (h : j ≠ 0 ∧ j ≠ 1 ∧ j ≠ 2 ∧ j ≠ 5 ∧ j ≠ 7 ∧ j ≠ 8 ∧ j ≠ 9 ∧ j ≠ 11 ∧ j ≠ 138) : s0I j = 0 := by
  rw [s0_at]
  repeat' split
  all_goals omega
theorem s0_mo {k j : Int} (k0 : 0 ≤ k) (k1 : k < 16) (j0 : 2 ≤ j) (j1 : j < 8) : mo s0I k j = 0 := s0_z (by omega)
theorem s0_00 : mo s0I 0 0 = 0 := rfl
theorem s0_01 : mo s0I 0 1 = -1 := rfl
theorem s0_f {d : Int} (d0 : 0 ≤ d) (d1 : d < 40) : mf s0I d = if d = 0 then 1 else 0 := by
  by_cases h : d = 0
  · subst h; rfl
  · rw [if_neg h]; exact s0_z (by omega)
theorem s0_pw (b : Int) : pwM s0I b = if b = 0 then 6 else 0 := by
  have e : pwM s0I b = sm 1 (fun k => sm 6 (fun p => b2i (mo s0I k (2 + p) = b))) := rfl
  have e2 : sm 6 (fun p => b2i (mo s0I 0 (2 + p) = b)) = sm 6 (fun _ => b2i ((0 : Int) = b)) := sm_congr (fun p p0 p1 => by rw [s0_mo (by omega) (by omega) (by omega) (by omega)])
  have e3 : sm 6 (fun _ => b2i ((0 : Int) = b)) = 0 + b2i ((0 : Int) = b) + b2i ((0 : Int) = b) + b2i ((0 : Int) = b) + b2i ((0 : Int) = b) + b2i ((0 : Int) = b) + b2i ((0 : Int) = b) := rfl
  have e1 : sm 1 (fun k => sm 6 (fun p => b2i (mo s0I k (2 + p) = b))) = 0 + sm 6 (fun p => b2i (mo s0I 0 (2 + p) = b)) := rfl
  rw [e, e1, e2, e3]
  by_cases h : b = 0
  · rw [if_pos h, b2i_t (show (0 : Int) = b from h.symm)]; rfl
  · rw [if_neg h, b2i_f (show ¬ (0 : Int) = b from fun z => h z.symm)]; rfl
theorem s0_MV : MV s0I := by
  have e0 : s0I 0 = 1 := rfl
  have e1 : s0I 1 = 1 := rfl
  have hS : 0 ≤ mS s0I 0 := mS_ex (k := 0) (by omega) (by omega) s0_00
  refine ⟨⟨s0_00, s0_01, fun i j i0 ij jn => ?_, fun k k0 kn => ?_, by omega, by omega⟩, fun k p k0 k1 p0 p1 => ?_, fun d d0 d1 => ?_, fun k p k0 k1 p0 p1 => ?_, fun b b0 b1 => ?_, fun k k0 k1 => ?_, Or.inr rfl, fun d d0 d1 h => ?_⟩
  · omega
  · omega
  · rw [s0_mo k0 k1 (by omega) (by omega)]; omega
  · rw [s0_f d0 d1]; split <;> omega
  · rw [s0_mo k0 (by omega) (by omega) (by omega)]; rfl
  · rcases (show b = 0 ∨ b = 1 ∨ b = 2 ∨ b = 3 by omega) with rfl | rfl | rfl | rfl
    · exact Or.inr ⟨by show (0 : Int) ≤ 0; omega, hS⟩
    · exact Or.inl rfl
    · exact Or.inl rfl
    · exact Or.inl rfl
  · rw [show k = 0 by omega, s0_00]; omega
  · rw [s0_f d0 d1] at h
    rw [s0_pw]
    split at h
    · rename_i z
      rw [if_pos z]; omega
    · omega
theorem V0_RW (w : Nat) : RW V0 w s0I := by
  refine ⟨s0_MV, rfl, rfl, rfl, rfl, rfl, rfl, fun b b0 b1 => ?_, fun k k0 k1 => ?_, fun k p k0 k1 p0 p1 => ?_, fun b c b0 b1 c0 c1 => ?_, fun b b0 b1 => ?_, fun j hj => ?_, fun j => ?_⟩
  · rcases (show b = 0 ∨ b = 1 ∨ b = 2 ∨ b = 3 by omega) with rfl | rfl | rfl | rfl <;> rfl
  · have e0 : s0I 0 = 1 := rfl
    rw [show k = 0 by omega]
    exact ⟨rfl, rfl⟩
  · have e0 : s0I 0 = 1 := rfl
    rw [s0_mo k0 (by omega) (by omega) (by omega)]; rfl
  · exact (s0_z (by omega)).symm
  · rw [s0_pw]; rfl
  · show updI (fun _ => 0) 0 6 j = 0
    rw [updI_n (by omega)]
  · show (0 : Int) ≤ 0 ∧ (0 : Int) < 40
    omega
theorem V0_BV : BV V0 := by
  intro r w j _
  unfold V0
  split
  all_goals simp only [s0I, updI]
  all_goals repeat' split
  all_goals omega
theorem V0_LC : LC (fun j => j) V0 s0I := by
  refine ⟨V0_BV, ⟨fun i hi => hi, fun i j _ _ h => h⟩, ?_, ?_, V0_RW 0, rfl, ?_⟩
  · show (0 : Int) ≤ 0 ∧ (0 : Int) < 4; omega
  · show (0 : Int) ≤ 0 ∧ (0 : Int) ≤ 4; omega
  · show (1 : Int) ≤ 1000000; omega
/-- while the law's own arrays are filled: i is the next number -/
def IF0 (V : Vt) (i : Int) : Prop := (∀ r w, ¬ (16 ≤ r ∧ r ≤ 22 ∧ w = 0) → V r w = V0 r w) ∧ (∀ j, V 16 0 j = if j = 0 ∨ j = 1 ∨ j = 2 ∨ j = 5 then 1 else 0) ∧ (∀ j, V 18 0 j = 0) ∧ (∀ j, V 19 0 j = if j = 0 then -1 else 0) ∧ (∀ j, V 20 0 j = 0) ∧ (∀ j, V 21 0 j = 0) ∧
  (∀ j, V 17 0 j = if 1 ≤ j ∧ j < i ∧ j < 4 then -1 else 0) ∧ (∀ j, V 22 0 j = if 1 ≤ j ∧ j < i then -1 else 0)
theorem IF0_g : IF0 (up (up (up (up (up V0 16 0 (updI (V0 16 0) 0 1)) 16 0 (updI (updI (V0 16 0) 0 1) 1 1)) 16 0 (updI (updI (updI (V0 16 0) 0 1) 1 1) 2 1)) 16 0 (updI (updI (updI (updI (V0 16 0) 0 1) 1 1) 2 1) 5 1)) 19 0 (updI (V0 19 0) 0 (-1))) 1 := by
  have z : ∀ j, V0 16 0 j = 0 := fun _ => rfl
  have z18 : ∀ j, V0 18 0 j = 0 := fun _ => rfl
  have z19 : ∀ j, V0 19 0 j = 0 := fun _ => rfl
  have z20 : ∀ j, V0 20 0 j = 0 := fun _ => rfl
  have z21 : ∀ j, V0 21 0 j = 0 := fun _ => rfl
  have z22 : ∀ j, V0 22 0 j = 0 := fun _ => rfl
  have z17 : ∀ j, V0 17 0 j = 0 := fun _ => rfl
  refine ⟨fun r w h => ?_, fun j => ?_, fun j => ?_, fun j => ?_, fun j => ?_, fun j => ?_, fun j => ?_, fun j => ?_⟩
  · rw [up_o (by omega), up_o (by omega), up_o (by omega), up_o (by omega), up_o (by omega)]
  · rw [up_r (by omega), up_s]
    unfold updI
    repeat' split
    all_goals first | rfl | omega
  · rw [up_r (by omega), up_r (by omega), up_r (by omega), up_r (by omega), up_r (by omega)]; exact z18 j
  · rw [up_s]
    unfold updI
    split
    · rfl
    · exact z19 j
  · rw [up_r (by omega), up_r (by omega), up_r (by omega), up_r (by omega), up_r (by omega)]; exact z20 j
  · rw [up_r (by omega), up_r (by omega), up_r (by omega), up_r (by omega), up_r (by omega)]; exact z21 j
  · rw [up_r (by omega), up_r (by omega), up_r (by omega), up_r (by omega), up_r (by omega), if_neg (by omega)]; exact z17 j
  · rw [up_r (by omega), up_r (by omega), up_r (by omega), up_r (by omega), up_r (by omega), if_neg (by omega)]; exact z22 j
/-- one turn -/
theorem IF0_s {V : Vt} {i x : Int} (h : IF0 V i) (i0 : 1 ≤ i) (i1 : i < 40) (hx : (i % 4 = 0 ∧ x = 0) ∨ (¬ i % 4 = 0 ∧ x = -1)) : IF0 (up (up V 22 0 (updI (V 22 0) i (-1))) 17 0 (updI (up V 22 0 (updI (V 22 0) i (-1)) 17 0) (i % 4) x)) (i + 1) := by
  obtain ⟨a, b, c, d, e, f, g, k⟩ := h
  refine ⟨fun r w h => ?_, fun j => ?_, fun j => ?_, fun j => ?_, fun j => ?_, fun j => ?_, fun j => ?_, fun j => ?_⟩
  · rw [up_o (by omega), up_o (by omega)]; exact a r w h
  · rw [up_r (by omega), up_r (by omega)]; exact b j
  · rw [up_r (by omega), up_r (by omega)]; exact c j
  · rw [up_r (by omega), up_r (by omega)]; exact d j
  · rw [up_r (by omega), up_r (by omega)]; exact e j
  · rw [up_r (by omega), up_r (by omega)]; exact f j
  · rw [up_s, up_r (by omega)]
    unfold updI
    split
    · rename_i q
      rcases hx with ⟨y, rfl⟩ | ⟨y, rfl⟩
      · rw [if_neg (by omega)]
      · rw [if_pos (by omega)]
    · rename_i q
      rw [g j]
      by_cases y : 1 ≤ j ∧ j < i ∧ j < 4
      · rw [if_pos y, if_pos (by omega)]
      · rw [if_neg y, if_neg (by omega)]
  · rw [up_r (by omega), up_s]
    unfold updI
    split
    · rename_i q
      rw [if_pos (by omega)]
    · rename_i q
      rw [k j]
      by_cases y : 1 ≤ j ∧ j < i
      · rw [if_pos y, if_pos (by omega)]
      · rw [if_neg y, if_neg (by omega)]
theorem IF0_BV {V : Vt} {i : Int} (h : IF0 V i) : BV V := by
  obtain ⟨a, b, c, d, e, f, g, k⟩ := h
  intro r w j hj
  by_cases z : 16 ≤ r ∧ r ≤ 22 ∧ w = 0
  · obtain ⟨z1, z2, rfl⟩ := z
    rcases (show r = 16 ∨ r = 17 ∨ r = 18 ∨ r = 19 ∨ r = 20 ∨ r = 21 ∨ r = 22 by omega) with rfl | rfl | rfl | rfl | rfl | rfl | rfl
    · rw [b j]; split <;> decide
    · rw [g j]; split <;> decide
    · rw [c j]; decide
    · rw [d j]; split <;> decide
    · rw [e j]; decide
    · rw [f j]; decide
    · rw [k j]; split <;> decide
  · rw [a r w z]; exact V0_BV r w j hj
theorem IF0_LC {V : Vt} {i : Int} (h : IF0 V i) : LC (fun j => j) V s0I := V0_LC.law (IF0_BV h) (fun r w hr => h.1 r w (by omega))
theorem s0_mb {c : Int} (c0 : 0 ≤ c) (c1 : c < 8) : mb s0I 0 c = 0 := s0_z (by omega)
theorem rD_00 {p : Int} (p0 : 0 ≤ p) (p1 : p < 6) : rD 0 p = 0 := by
  unfold rD
  rw [Int.zero_ediv]; rfl
theorem cB_00 {c : Int} : cB 0 0 c = 0 := by
  unfold cB cD
  rw [Int.zero_ediv, Int.zero_ediv]
  split <;> rfl
theorem IF0_LN {V : Vt} {i : Int} (h : IF0 V i) (hi : 40 ≤ i) : LN V s0I := by
  obtain ⟨a, b, c, d, e, f, g, k⟩ := h
  have e0 : s0I 0 = 1 := rfl
  refine ⟨fun j j0 j1 => ?_, fun j j0 j1 => ?_, fun q q0 q1 => ?_, fun q p q0 q1 p0 p1 => ?_, fun q q0 q1 => ?_, fun j => ⟨?_, fun p p0 p1 => ?_⟩, fun j => ?_, fun j => ?_⟩
  · rw [b j]
    rcases (show j = 0 ∨ j = 1 ∨ j = 2 ∨ j = 3 ∨ j = 4 ∨ j = 5 by omega) with rfl | rfl | rfl | rfl | rfl | rfl <;> rfl
  · rw [g j]
    rcases (show j = 0 ∨ j = 1 ∨ j = 2 ∨ j = 3 by omega) with rfl | rfl | rfl | rfl
    · rw [if_neg (by omega)]; rfl
    · rw [if_pos (by omega)]; rfl
    · rw [if_pos (by omega)]; rfl
    · rw [if_pos (by omega)]; rfl
  · rw [show q = 0 by omega, c 0, d 0]
    exact ⟨rfl, rfl⟩
  · rw [e q, rD_00 p0 p1, s0_mo q0 (by omega) (by omega) (by omega)]
  · rcases (show q = 0 ∨ 0 < q by omega) with rfl | z
    · refine Or.inl ⟨rfl, by rw [k 0]; split <;> omega, fun x x0 x1 => ?_⟩
      rw [k 0, f 0, if_neg (by omega), cB_00, s0_mb x0 x1]
    · refine Or.inr ⟨?_, by rw [k q, if_pos (by omega)]; decide⟩
      rw [s0_f q0 q1, if_neg (by omega)]
  · rw [e j]; omega
  · rw [e j, rD_00 p0 p1]; omega
  · rw [f j]; omega
  · rw [k j]; split <;> omega
theorem s0_HBr : HBr s0I := ⟨0, by omega, by omega, by show (0 : Int) ≤ 0; omega⟩
