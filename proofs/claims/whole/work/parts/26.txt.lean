set_option maxHeartbeats 4000000 in
set_option maxRecDepth 100000 in
theorem kX2_signHere (l : Launch) (G : Gl) (P : Nat → Nat) (V : Vt) (hB : BV V) (ot : 0 ≤ V 13 0 3 ∧ V 13 0 2 ≤ 60) : Met l yX2_signHere wsX2_signHere ({ frames := 0, cells := 0, slots := 0, locals := 0 }) (va_Pc [.ref (ad G 13 0)] (Sg G P V)) (Qk G mkI (dt (if V 13 0 3 < V 13 0 2 then V 14 0 (V 13 0 3) else -1) P V)) 0 0 (mem G) := by
  refine z_met (cc := cX2_signHere) (nL := 1) (ret := (some .int)) (own := RX2) (by decide +kernel) rfl rfl (Nat.le_of_ble_eq_true rfl) (zz_cat rfl) (L := [some (.ref (ad G 13 0))]) rfl ?_
  intro X E
  have iX2 : ∀ x ∈ wsX20, x ∈ wsX2_signHere := by decide +kernel
  have f0 : Cond.fieldLink RX2 22 "SharedStates$Orders" "position" "I" ∈ wsX2_signHere := by decide +kernel
  have f1 : Cond.fieldLink RX2 18 "SharedStates$Orders" "length" "I" ∈ wsX2_signHere := by decide +kernel
  have f2 : Cond.fieldLink RX2 9 "SharedStates$Orders" "signs" "[I" ∈ wsX2_signHere := by decide +kernel
  refine z_aload_n E dX2_signHere_0 0 rfl rfl ?_
  have hr_1 := hB.g 13 0 3 rfl
  refine z_get E (ci := 2) (N := 8) (C := RX2) (T := TX2) (rfl : vl 13 0 = true) rfl rfl iX2 3 (by decide) rfl f0 rfl dX2_signHere_1 ?_
  refine z_aload_n E dX2_signHere_4 0 rfl rfl ?_
  have hr_2 := hB.g 13 0 2 rfl
  refine z_get E (ci := 2) (N := 8) (C := RX2) (T := TX2) (rfl : vl 13 0 = true) rfl rfl iX2 2 (by decide) rfl f1 rfl dX2_signHere_5 ?_
  refine z_icmp_ge E 23 dX2_signHere_8 rfl (by omega) (by omega) (fun c_3 => ?_) (fun c_3 => ?_)
  · skip
    refine z_iconst E dX2_signHere_23 ?_
    exact z_iret E dX2_signHere_24 (by first | exact ⟨(if_pos (by omega)).symm, rfl, rfl⟩ | exact ⟨(if_neg (by omega)).symm, rfl, rfl⟩)
  · skip
    refine z_aload_n E dX2_signHere_11 0 rfl rfl ?_
    refine z_get E (ci := 2) (N := 8) (C := RX2) (T := TX2) (rfl : vl 13 0 = true) rfl rfl iX2 0 (by decide) rfl f2 rfl dX2_signHere_12 ?_
    refine z_aload_n E dX2_signHere_15 0 rfl rfl ?_
    refine z_get E (ci := 2) (N := 8) (C := RX2) (T := TX2) (rfl : vl 13 0 = true) rfl rfl iX2 3 (by decide) rfl f0 rfl dX2_signHere_16 ?_
    refine z_iald E (rfl : vl 14 0 = true) 60 rfl (by omega) (by omega) (by omega) dX2_signHere_19 ?_
    have hr_4 := hB.g 14 0 (V 13 0 3) rfl
    refine z_goto E 24 dX2_signHere_20 rfl ?_
    exact z_iret E dX2_signHere_24 (by first | exact ⟨(if_pos (by omega)).symm, rfl, rfl⟩ | exact ⟨(if_neg (by omega)).symm, rfl, rfl⟩)

set_option maxHeartbeats 4000000 in
set_option maxRecDepth 100000 in
theorem kX2_numbersOf (l : Launch) (G : Gl) (P : Nat → Nat) (V : Vt) (x : Int) (a1 : inR x) : Met l yX2_numbersOf wsX2_numbersOf ({ frames := 0, cells := 0, slots := 0, locals := 0 }) (va_Pc [.int (iI x)] (Sg G P V)) (Qk G mkI (dt (nbO x) P V)) 0 0 (mem G) := by
  refine z_met (cc := cX2_numbersOf) (nL := 1) (ret := (some .int)) (own := RX2) (by decide +kernel) rfl rfl (Nat.le_of_ble_eq_true rfl) (zz_cat rfl) (L := [some (.int (iI x))]) rfl ?_
  intro X E
  refine z_iload_n E dX2_numbersOf_0 0 rfl rfl ?_
  by_cases q_1_98 : x = 98
  · skip
    refine z_ls E 58 (by omega) dX2_numbersOf_1 (by decide) (by rw [q_1_98] <;> decide) rfl ?_
    refine z_iconst E dX2_numbersOf_58 ?_
    exact z_iret E dX2_numbersOf_59 (⟨by unfold nbO; first | (rw [if_pos (by omega)]; done) | (rw [if_neg (by omega), if_pos (by omega)]; done) | (rw [if_neg (by omega), if_neg (by omega), if_pos (by omega)]; done) | (rw [if_neg (by omega), if_neg (by omega), if_neg (by omega), if_pos (by omega)]; done) | (rw [if_neg (by omega), if_neg (by omega), if_neg (by omega), if_neg (by omega)]; done), rfl, rfl⟩)
  by_cases q_1_102 : x = 102
  · skip
    refine z_ls E 54 (by omega) dX2_numbersOf_1 (by decide) (by rw [q_1_102] <;> decide) rfl ?_
    refine z_iconst E dX2_numbersOf_54 ?_
    exact z_iret E dX2_numbersOf_55 (⟨by unfold nbO; first | (rw [if_pos (by omega)]; done) | (rw [if_neg (by omega), if_pos (by omega)]; done) | (rw [if_neg (by omega), if_neg (by omega), if_pos (by omega)]; done) | (rw [if_neg (by omega), if_neg (by omega), if_neg (by omega), if_pos (by omega)]; done) | (rw [if_neg (by omega), if_neg (by omega), if_neg (by omega), if_neg (by omega)]; done), rfl, rfl⟩)
  by_cases q_1_109 : x = 109
  · skip
    refine z_ls E 56 (by omega) dX2_numbersOf_1 (by decide) (by rw [q_1_109] <;> decide) rfl ?_
    refine z_iconst E dX2_numbersOf_56 ?_
    exact z_iret E dX2_numbersOf_57 (⟨by unfold nbO; first | (rw [if_pos (by omega)]; done) | (rw [if_neg (by omega), if_pos (by omega)]; done) | (rw [if_neg (by omega), if_neg (by omega), if_pos (by omega)]; done) | (rw [if_neg (by omega), if_neg (by omega), if_neg (by omega), if_pos (by omega)]; done) | (rw [if_neg (by omega), if_neg (by omega), if_neg (by omega), if_neg (by omega)]; done), rfl, rfl⟩)
  by_cases q_1_119 : x = 119
  · skip
    refine z_ls E 52 (by omega) dX2_numbersOf_1 (by decide) (by rw [q_1_119] <;> decide) rfl ?_
    refine z_iconst E dX2_numbersOf_52 ?_
    exact z_iret E dX2_numbersOf_53 (⟨by unfold nbO; first | (rw [if_pos (by omega)]; done) | (rw [if_neg (by omega), if_pos (by omega)]; done) | (rw [if_neg (by omega), if_neg (by omega), if_pos (by omega)]; done) | (rw [if_neg (by omega), if_neg (by omega), if_neg (by omega), if_pos (by omega)]; done) | (rw [if_neg (by omega), if_neg (by omega), if_neg (by omega), if_neg (by omega)]; done), rfl, rfl⟩)
  by_cases q_1_120 : x = 120
  · skip
    refine z_ls E 58 (by omega) dX2_numbersOf_1 (by decide) (by rw [q_1_120] <;> decide) rfl ?_
    refine z_iconst E dX2_numbersOf_58 ?_
    exact z_iret E dX2_numbersOf_59 (⟨by unfold nbO; first | (rw [if_pos (by omega)]; done) | (rw [if_neg (by omega), if_pos (by omega)]; done) | (rw [if_neg (by omega), if_neg (by omega), if_pos (by omega)]; done) | (rw [if_neg (by omega), if_neg (by omega), if_neg (by omega), if_pos (by omega)]; done) | (rw [if_neg (by omega), if_neg (by omega), if_neg (by omega), if_neg (by omega)]; done), rfl, rfl⟩)
  refine z_ls E 60 (by omega) dX2_numbersOf_1 (by decide) (by simp only [Op.lookupswitch.offset_cons, Op.lookupswitch.offset_nil, if_neg (Ne.symm q_1_98), if_neg (Ne.symm q_1_102), if_neg (Ne.symm q_1_109), if_neg (Ne.symm q_1_119), if_neg (Ne.symm q_1_120)]; rfl) rfl ?_
  refine z_iconst E dX2_numbersOf_60 ?_
  exact z_iret E dX2_numbersOf_61 (⟨by unfold nbO; first | (rw [if_pos (by omega)]; done) | (rw [if_neg (by omega), if_pos (by omega)]; done) | (rw [if_neg (by omega), if_neg (by omega), if_pos (by omega)]; done) | (rw [if_neg (by omega), if_neg (by omega), if_neg (by omega), if_pos (by omega)]; done) | (rw [if_neg (by omega), if_neg (by omega), if_neg (by omega), if_neg (by omega)]; done), rfl, rfl⟩)
