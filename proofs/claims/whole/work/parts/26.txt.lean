set_option maxHeartbeats 4000000 in
set_option maxRecDepth 100000 in
theorem kX2_signHere (l : Launch) (G : Gl) (P : Nat → Nat) (V : Vt) (hB : BV V) (ot : 0 ≤ V 13 0 3 ∧ V 13 0 2 ≤ 60) : Met l yX2_signHere wsX2_signHere ({ frames := 0, cells := 0, slots := 0, locals := 0 }) (va_Pc [.ref (ad G 13 0)] (Sg G P V)) (Qk G mkI (dt (shN (V 14 0) (V 13 0 2) (V 13 0 3)) P V)) 0 0 (mem G) := by
  refine z_met (cc := cX2_signHere) (nL := 1) (ret := (some .int)) (own := RX2) (by decide +kernel) rfl rfl (Nat.le_of_ble_eq_true rfl) (zz_cat rfl) (L := [some (.ref (ad G 13 0))]) rfl ?_
  intro X E
  have iX2 : ∀ x ∈ wsX20, x ∈ wsX2_signHere := by decide +kernel
  have f0 : Cond.fieldLink RX2 22 "SharedStates$Orders" "position" "I" ∈ wsX2_signHere := by decide +kernel
  have f1 : Cond.fieldLink RX2 18 "SharedStates$Orders" "length" "I" ∈ wsX2_signHere := by decide +kernel
  have f2 : Cond.fieldLink RX2 9 "SharedStates$Orders" "signs" "[I" ∈ wsX2_signHere := by decide +kernel
  refine z_aload_n E dX2_signHere_0 0 rfl rfl ?_
  have hr_1 := hB.g 13 0 3 rfl
  refine z_get E (ci := 2) (N := 8) (C := RX2) (T := TX2) (rfl : vl 13 0 = true) rfl rfl iX2 3 (by decide) rfl f0 rfl dX2_signHere_1 ?_
  refine z_aload_n E dX2_signHere_4 0 rfl rfl ?_
  have hr_2 := hB.g 13 0 2 rfl
  refine z_get E (ci := 2) (N := 8) (C := RX2) (T := TX2) (rfl : vl 13 0 = true) rfl rfl iX2 2 (by decide) rfl f1 rfl dX2_signHere_5 ?_
  refine z_icmp_ge E 23 dX2_signHere_8 rfl (by omega) (by omega) (fun c_3 => ?_) (fun c_3 => ?_)
  · skip
    refine z_iconst E dX2_signHere_23 ?_
    exact z_iret E dX2_signHere_24 (by first | exact ⟨(if_pos (by omega)).symm, rfl, rfl⟩ | exact ⟨(if_neg (by omega)).symm, rfl, rfl⟩)
  · skip
    refine z_aload_n E dX2_signHere_11 0 rfl rfl ?_
    refine z_get E (ci := 2) (N := 8) (C := RX2) (T := TX2) (rfl : vl 13 0 = true) rfl rfl iX2 0 (by decide) rfl f2 rfl dX2_signHere_12 ?_
    refine z_aload_n E dX2_signHere_15 0 rfl rfl ?_
    refine z_get E (ci := 2) (N := 8) (C := RX2) (T := TX2) (rfl : vl 13 0 = true) rfl rfl iX2 3 (by decide) rfl f0 rfl dX2_signHere_16 ?_
    refine z_iald E (rfl : vl 14 0 = true) 60 rfl (by omega) (by omega) (by omega) dX2_signHere_19 ?_
    have hr_4 := hB.g 14 0 (V 13 0 3) rfl
    refine z_goto E 24 dX2_signHere_20 rfl ?_
    exact z_iret E dX2_signHere_24 (by first | exact ⟨(if_pos (by omega)).symm, rfl, rfl⟩ | exact ⟨(if_neg (by omega)).symm, rfl, rfl⟩)

set_option maxHeartbeats 4000000 in
set_option maxRecDepth 100000 in
theorem kX2_numbersOf (l : Launch) (G : Gl) (P : Nat → Nat) (V : Vt) (x : Int) (a1 : inR x) : Met l yX2_numbersOf wsX2_numbersOf ({ frames := 0, cells := 0, slots := 0, locals := 0 }) (va_Pc [.int (iI x)] (Sg G P V)) (Qk G mkI (dt (nbO x) P V)) 0 0 (mem G) := by
  refine z_met (cc := cX2_numbersOf) (nL := 1) (ret := (some .int)) (own := RX2) (by decide +kernel) rfl rfl (Nat.le_of_ble_eq_true rfl) (zz_cat rfl) (L := [some (.int (iI x))]) rfl ?_
  intro X E
  refine z_iload_n E dX2_numbersOf_0 0 rfl rfl ?_
  by_cases q_1_98 : x = 98
  · skip
    refine z_ls E 58 (by omega) dX2_numbersOf_1 (by decide) (by rw [q_1_98] <;> decide) rfl ?_
    refine z_iconst E dX2_numbersOf_58 ?_
    exact z_iret E dX2_numbersOf_59 (⟨by unfold nbO; first | (rw [if_pos (by omega)]; done) | (rw [if_neg (by omega), if_pos (by omega)]; done) | (rw [if_neg (by omega), if_neg (by omega), if_pos (by omega)]; done) | (rw [if_neg (by omega), if_neg (by omega), if_neg (by omega), if_pos (by omega)]; done) | (rw [if_neg (by omega), if_neg (by omega), if_neg (by omega), if_neg (by omega)]; done), rfl, rfl⟩)
  by_cases q_1_102 : x = 102
  · skip
    refine z_ls E 54 (by omega) dX2_numbersOf_1 (by decide) (by rw [q_1_102] <;> decide) rfl ?_
    refine z_iconst E dX2_numbersOf_54 ?_
    exact z_iret E dX2_numbersOf_55 (⟨by unfold nbO; first | (rw [if_pos (by omega)]; done) | (rw [if_neg (by omega), if_pos (by omega)]; done) | (rw [if_neg (by omega), if_neg (by omega), if_pos (by omega)]; done) | (rw [if_neg (by omega), if_neg (by omega), if_neg (by omega), if_pos (by omega)]; done) | (rw [if_neg (by omega), if_neg (by omega), if_neg (by omega), if_neg (by omega)]; done), rfl, rfl⟩)
  by_cases q_1_109 : x = 109
  · skip
    refine z_ls E 56 (by omega) dX2_numbersOf_1 (by decide) (by rw [q_1_109] <;> decide) rfl ?_
    refine z_iconst E dX2_numbersOf_56 ?_
    exact z_iret E dX2_numbersOf_57 (⟨by unfold nbO; first | (rw [if_pos (by omega)]; done) | (rw [if_neg (by omega), if_pos (by omega)]; done) | (rw [if_neg (by omega), if_neg (by omega), if_pos (by omega)]; done) | (rw [if_neg (by omega), if_neg (by omega), if_neg (by omega), if_pos (by omega)]; done) | (rw [if_neg (by omega), if_neg (by omega), if_neg (by omega), if_neg (by omega)]; done), rfl, rfl⟩)
  by_cases q_1_119 : x = 119
  · skip
    refine z_ls E 52 (by omega) dX2_numbersOf_1 (by decide) (by rw [q_1_119] <;> decide) rfl ?_
    refine z_iconst E dX2_numbersOf_52 ?_
    exact z_iret E dX2_numbersOf_53 (⟨by unfold nbO; first | (rw [if_pos (by omega)]; done) | (rw [if_neg (by omega), if_pos (by omega)]; done) | (rw [if_neg (by omega), if_neg (by omega), if_pos (by omega)]; done) | (rw [if_neg (by omega), if_neg (by omega), if_neg (by omega), if_pos (by omega)]; done) | (rw [if_neg (by omega), if_neg (by omega), if_neg (by omega), if_neg (by omega)]; done), rfl, rfl⟩)
  by_cases q_1_120 : x = 120
  · skip
    refine z_ls E 58 (by omega) dX2_numbersOf_1 (by decide) (by rw [q_1_120] <;> decide) rfl ?_
    refine z_iconst E dX2_numbersOf_58 ?_
    exact z_iret E dX2_numbersOf_59 (⟨by unfold nbO; first | (rw [if_pos (by omega)]; done) | (rw [if_neg (by omega), if_pos (by omega)]; done) | (rw [if_neg (by omega), if_neg (by omega), if_pos (by omega)]; done) | (rw [if_neg (by omega), if_neg (by omega), if_neg (by omega), if_pos (by omega)]; done) | (rw [if_neg (by omega), if_neg (by omega), if_neg (by omega), if_neg (by omega)]; done), rfl, rfl⟩)
  refine z_ls E 60 (by omega) dX2_numbersOf_1 (by decide) (by simp only [Op.lookupswitch.offset_cons, Op.lookupswitch.offset_nil, if_neg (Ne.symm q_1_98), if_neg (Ne.symm q_1_102), if_neg (Ne.symm q_1_109), if_neg (Ne.symm q_1_119), if_neg (Ne.symm q_1_120)]; rfl) rfl ?_
  refine z_iconst E dX2_numbersOf_60 ?_
  exact z_iret E dX2_numbersOf_61 (⟨by unfold nbO; first | (rw [if_pos (by omega)]; done) | (rw [if_neg (by omega), if_pos (by omega)]; done) | (rw [if_neg (by omega), if_neg (by omega), if_pos (by omega)]; done) | (rw [if_neg (by omega), if_neg (by omega), if_neg (by omega), if_pos (by omega)]; done) | (rw [if_neg (by omega), if_neg (by omega), if_neg (by omega), if_neg (by omega)]; done), rfl, rfl⟩)

set_option maxHeartbeats 4000000 in
set_option maxRecDepth 100000 in
theorem kX2_readNumber (l : Launch) (G : Gl) (P : Nat → Nat) (V : Vt) (q : Int) (hB : BV V) (ot : 0 ≤ V 13 0 3 ∧ V 13 0 2 ≤ 60) (a1 : 0 ≤ q) (a2 : q < 4) : Met l yX2_readNumber wsX2_readNumber ({ frames := 1, cells := 0, slots := 0, locals := 20 }) (va_Pc [.ref (ad G 13 0), .int (iI q)] (Sg G P V)) (Qk G mkI (fun r P' V' => P' = P ∧ BV V' ∧ ∃ d, DGm (V 14 0) (V 13 0 2) (V 13 0 3) d ∧ r = b2i (0 < d) ∧ V' = up (up V 13 0 (updI (V 13 0) 3 (V 13 0 3 + d))) 15 0 (updI (V 15 0) q (nmV (V 14 0) (V 13 0 3) (d).toNat)) ∧ 0 ≤ nmV (V 14 0) (V 13 0 3) (d).toNat ∧ nmV (V 14 0) (V 13 0 3) (d).toNat ≤ 999)) 0 0 (mem G) := by
  refine z_met (cc := cX2_readNumber) (nL := 4) (ret := (some .boolean)) (own := RX2) (by decide +kernel) rfl rfl (Nat.le_of_ble_eq_true rfl) (zz_cat rfl) (L := [some (.ref (ad G 13 0)), some (.int (iI q)), none, none]) rfl ?_
  intro X E
  have iX2 : ∀ x ∈ wsX20, x ∈ wsX2_readNumber := by decide +kernel
  have f0 : Cond.fieldLink RX2 15 "SharedStates$Orders" "numbers" "[I" ∈ wsX2_readNumber := by decide +kernel
  have f1 : Cond.fieldLink RX2 22 "SharedStates$Orders" "position" "I" ∈ wsX2_readNumber := by decide +kernel
  refine z_iconst E dX2_readNumber_0 ?_
  refine z_istore_n E dX2_readNumber_1 2 rfl (L' := [some (.ref (ad G 13 0)), some (.int (iI q)), some (.int (iI 0)), none]) (Nat.le_of_ble_eq_true rfl) rfl ?_
  refine z_iconst E dX2_readNumber_2 ?_
  refine z_istore_n E dX2_readNumber_3 3 rfl (L' := [some (.ref (ad G 13 0)), some (.int (iI q)), some (.int (iI 0)), some (.int (iI 0))]) (Nat.le_of_ble_eq_true rfl) rfl ?_
  have lp_4_1 : ∀ (fuel : Nat) (num : Int) (d : Int) (Vl_4 : Vt), BV Vl_4 → (0 ≤ d) → (d ≤ 3) → (∀ j, 0 ≤ j → j < d → dgA (V 14 0) (V 13 0 2) (V 13 0 3 + j)) → (num = nmV (V 14 0) (V 13 0 3) (d).toNat) → (0 ≤ num ∧ ((d = 0 ∧ num = 0) ∨ (d = 1 ∧ num ≤ 9) ∨ (d = 2 ∧ num ≤ 99) ∨ (d = 3 ∧ num ≤ 999))) → (Vl_4 = up V 13 0 (updI (V 13 0) 3 (V 13 0 3 + d))) → (3 - d : Int).toNat < fuel → Kz X G P Vl_4 [some (.ref (ad G 13 0)), some (.int (iI q)), some (.int (iI num)), some (.int (iI d))] 4 [] := by
    intro fuel
    induction fuel with
    | zero => intro num d Vl_4 hBl_4 hd0 hd1 hda hn hv hVl hf_4; exact absurd hf_4 (Nat.not_lt_zero _)
    | succ fuel ih_4 =>
      intro num d Vl_4 hBl_4 hd0 hd1 hda hn hv hVl hf_4
      have zq3 : Vl_4 13 0 3 = V 13 0 3 + d := by rw [hVl, up_s]; exact if_pos rfl
      have zq2 : Vl_4 13 0 2 = V 13 0 2 := by rw [hVl] <;> rfl
      have zq14 : Vl_4 14 0 = V 14 0 := by rw [hVl] <;> rfl
      have zq15 : Vl_4 15 0 = V 15 0 := by rw [hVl] <;> rfl
      have zqr := hB.g 14 0 (V 13 0 3 + d) rfl
      have zqc := shN_c (V 14 0) (V 13 0 2) (V 13 0 3 + d)
      have zqe : shN (Vl_4 14 0) (Vl_4 13 0 2) (Vl_4 13 0 3) = shN (V 14 0) (V 13 0 2) (V 13 0 3 + d) := by rw [zq14, zq2, zq3]
      refine z_iload_n E dX2_readNumber_4 3 rfl rfl ?_
      refine z_iconst E dX2_readNumber_5 ?_
      refine z_icmp_ge E 56 dX2_readNumber_6 rfl (by omega) (by omega) (fun c_2 => ?_) (fun c_2 => ?_)
      · skip
        refine z_aload_n E dX2_readNumber_56 0 rfl rfl ?_
        refine z_get E (ci := 2) (N := 8) (C := RX2) (T := TX2) (rfl : vl 13 0 = true) rfl rfl iX2 1 (by decide) rfl f0 rfl dX2_readNumber_57 ?_
        refine z_iload_n E dX2_readNumber_60 1 rfl rfl ?_
        refine z_iload_n E dX2_readNumber_61 2 rfl rfl ?_
        refine z_iast E (rfl : vl 15 0 = true) 4 (fun _ => rfl) (by omega) (by omega) (by omega) dX2_readNumber_62 ?_
        obtain ⟨V3, hV3⟩ : ∃ Z : Vt, Z = up Vl_4 15 0 (updI (Vl_4 15 0) q num) := ⟨_, rfl⟩
        rw [← hV3]
        have hB3 : BV V3 := hV3 ▸ BV_up hBl_4 (by intro _; omega)
        refine z_iload_n E dX2_readNumber_63 3 rfl rfl ?_
        refine z_if_le E 71 dX2_readNumber_64 rfl (by omega) (fun c_4 => ?_) (fun c_4 => ?_)
        · skip
          refine z_iconst E dX2_readNumber_71 ?_
          exact z_zret E dX2_readNumber_72 (by first | decide | omega) (by first | exact ⟨rfl, hB3, d, ⟨hd0, hd1, hda, by first | exact Or.inl (by omega) | exact Or.inr (fun ⟨z0, z1, z2⟩ => by omega)⟩, by first | exact (b2i_t (by omega)).symm | exact (b2i_f (by omega)).symm, by rw [hV3, zq15, hVl, hn], by omega, by omega⟩)
        · skip
          refine z_iconst E dX2_readNumber_67 ?_
          refine z_goto E 72 dX2_readNumber_68 rfl ?_
          exact z_zret E dX2_readNumber_72 (by first | decide | omega) (by first | exact ⟨rfl, hB3, d, ⟨hd0, hd1, hda, by first | exact Or.inl (by omega) | exact Or.inr (fun ⟨z0, z1, z2⟩ => by omega)⟩, by first | exact (b2i_t (by omega)).symm | exact (b2i_f (by omega)).symm, by rw [hV3, zq15, hVl, hn], by omega, by omega⟩)
      · skip
        refine z_aload_n E dX2_readNumber_9 0 rfl rfl ?_
        refine z_callV E (ci := 2) (N := 8) (C := RX2) (T := TX2) (n := 0) (st := []) (rfl : vl 13 0 = true) rfl rfl [] (kX2_signHere l G P Vl_4  hBl_4 (by omega)) gX2_readNumber_X2_signHere rfl ⟨rfl, rfl⟩ (by decide +kernel) ⟨Nat.le_of_ble_eq_true rfl, Nat.le_of_ble_eq_true rfl⟩ rfl rfl (Nat.le_of_ble_eq_true rfl) rfl dX2_readNumber_10 (z_dtI ?_)
        refine z_bipush E dX2_readNumber_13 rfl ?_
        refine z_icmp_lt E 56 dX2_readNumber_15 rfl (by omega) (by omega) (fun c_6 => ?_) (fun c_6 => ?_)
        · skip
          refine z_aload_n E dX2_readNumber_56 0 rfl rfl ?_
          refine z_get E (ci := 2) (N := 8) (C := RX2) (T := TX2) (rfl : vl 13 0 = true) rfl rfl iX2 1 (by decide) rfl f0 rfl dX2_readNumber_57 ?_
          refine z_iload_n E dX2_readNumber_60 1 rfl rfl ?_
          refine z_iload_n E dX2_readNumber_61 2 rfl rfl ?_
          refine z_iast E (rfl : vl 15 0 = true) 4 (fun _ => rfl) (by omega) (by omega) (by omega) dX2_readNumber_62 ?_
          obtain ⟨V7, hV7⟩ : ∃ Z : Vt, Z = up Vl_4 15 0 (updI (Vl_4 15 0) q num) := ⟨_, rfl⟩
          rw [← hV7]
          have hB7 : BV V7 := hV7 ▸ BV_up hBl_4 (by intro _; omega)
          refine z_iload_n E dX2_readNumber_63 3 rfl rfl ?_
          refine z_if_le E 71 dX2_readNumber_64 rfl (by omega) (fun c_8 => ?_) (fun c_8 => ?_)
          · skip
            refine z_iconst E dX2_readNumber_71 ?_
            exact z_zret E dX2_readNumber_72 (by first | decide | omega) (by first | exact ⟨rfl, hB7, d, ⟨hd0, hd1, hda, by first | exact Or.inl (by omega) | exact Or.inr (fun ⟨z0, z1, z2⟩ => by omega)⟩, by first | exact (b2i_t (by omega)).symm | exact (b2i_f (by omega)).symm, by rw [hV7, zq15, hVl, hn], by omega, by omega⟩)
          · skip
            refine z_iconst E dX2_readNumber_67 ?_
            refine z_goto E 72 dX2_readNumber_68 rfl ?_
            exact z_zret E dX2_readNumber_72 (by first | decide | omega) (by first | exact ⟨rfl, hB7, d, ⟨hd0, hd1, hda, by first | exact Or.inl (by omega) | exact Or.inr (fun ⟨z0, z1, z2⟩ => by omega)⟩, by first | exact (b2i_t (by omega)).symm | exact (b2i_f (by omega)).symm, by rw [hV7, zq15, hVl, hn], by omega, by omega⟩)
        · skip
          refine z_aload_n E dX2_readNumber_18 0 rfl rfl ?_
          refine z_callV E (ci := 2) (N := 8) (C := RX2) (T := TX2) (n := 0) (st := []) (rfl : vl 13 0 = true) rfl rfl [] (kX2_signHere l G P Vl_4  hBl_4 (by omega)) gX2_readNumber_X2_signHere rfl ⟨rfl, rfl⟩ (by decide +kernel) ⟨Nat.le_of_ble_eq_true rfl, Nat.le_of_ble_eq_true rfl⟩ rfl rfl (Nat.le_of_ble_eq_true rfl) rfl dX2_readNumber_19 (z_dtI ?_)
          refine z_bipush E dX2_readNumber_22 rfl ?_
          refine z_icmp_gt E 56 dX2_readNumber_24 rfl (by omega) (by omega) (fun c_10 => ?_) (fun c_10 => ?_)
          · skip
            refine z_aload_n E dX2_readNumber_56 0 rfl rfl ?_
            refine z_get E (ci := 2) (N := 8) (C := RX2) (T := TX2) (rfl : vl 13 0 = true) rfl rfl iX2 1 (by decide) rfl f0 rfl dX2_readNumber_57 ?_
            refine z_iload_n E dX2_readNumber_60 1 rfl rfl ?_
            refine z_iload_n E dX2_readNumber_61 2 rfl rfl ?_
            refine z_iast E (rfl : vl 15 0 = true) 4 (fun _ => rfl) (by omega) (by omega) (by omega) dX2_readNumber_62 ?_
            obtain ⟨V11, hV11⟩ : ∃ Z : Vt, Z = up Vl_4 15 0 (updI (Vl_4 15 0) q num) := ⟨_, rfl⟩
            rw [← hV11]
            have hB11 : BV V11 := hV11 ▸ BV_up hBl_4 (by intro _; omega)
            refine z_iload_n E dX2_readNumber_63 3 rfl rfl ?_
            refine z_if_le E 71 dX2_readNumber_64 rfl (by omega) (fun c_12 => ?_) (fun c_12 => ?_)
            · skip
              refine z_iconst E dX2_readNumber_71 ?_
              exact z_zret E dX2_readNumber_72 (by first | decide | omega) (by first | exact ⟨rfl, hB11, d, ⟨hd0, hd1, hda, by first | exact Or.inl (by omega) | exact Or.inr (fun ⟨z0, z1, z2⟩ => by omega)⟩, by first | exact (b2i_t (by omega)).symm | exact (b2i_f (by omega)).symm, by rw [hV11, zq15, hVl, hn], by omega, by omega⟩)
            · skip
              refine z_iconst E dX2_readNumber_67 ?_
              refine z_goto E 72 dX2_readNumber_68 rfl ?_
              exact z_zret E dX2_readNumber_72 (by first | decide | omega) (by first | exact ⟨rfl, hB11, d, ⟨hd0, hd1, hda, by first | exact Or.inl (by omega) | exact Or.inr (fun ⟨z0, z1, z2⟩ => by omega)⟩, by first | exact (b2i_t (by omega)).symm | exact (b2i_f (by omega)).symm, by rw [hV11, zq15, hVl, hn], by omega, by omega⟩)
          · skip
            refine z_iload_n E dX2_readNumber_27 2 rfl rfl ?_
            refine z_bipush E dX2_readNumber_28 rfl ?_
            refine z_imul E dX2_readNumber_30 ?_
            refine z_aload_n E dX2_readNumber_31 0 rfl rfl ?_
            refine z_callV E (ci := 2) (N := 8) (C := RX2) (T := TX2) (n := 0) (st := [.int (iI (num * 10))]) (rfl : vl 13 0 = true) rfl rfl [] (kX2_signHere l G P Vl_4  hBl_4 (by omega)) gX2_readNumber_X2_signHere rfl ⟨rfl, rfl⟩ (by decide +kernel) ⟨Nat.le_of_ble_eq_true rfl, Nat.le_of_ble_eq_true rfl⟩ rfl rfl (Nat.le_of_ble_eq_true rfl) rfl dX2_readNumber_32 (z_dtI ?_)
            refine z_iadd E dX2_readNumber_35 ?_
            refine z_bipush E dX2_readNumber_36 rfl ?_
            refine z_isub E dX2_readNumber_38 ?_
            refine z_istore_n E dX2_readNumber_39 2 rfl (L' := [some (.ref (ad G 13 0)), some (.int (iI q)), some (.int (iI (((num * 10) + (shN (Vl_4 14 0) (Vl_4 13 0 2) (Vl_4 13 0 3))) - 48))), some (.int (iI d))]) (Nat.le_of_ble_eq_true rfl) rfl ?_
            refine z_iinc E d dX2_readNumber_40 (L' := [some (.ref (ad G 13 0)), some (.int (iI q)), some (.int (iI (((num * 10) + (shN (Vl_4 14 0) (Vl_4 13 0 2) (Vl_4 13 0 3))) - 48))), some (.int (iI (d + 1)))]) (Nat.le_of_ble_eq_true rfl) rfl rfl ?_
            refine z_aload_n E dX2_readNumber_43 0 rfl rfl ?_
            refine z_dup E dX2_readNumber_44 rfl ?_
            have hr_14 := hBl_4.g 13 0 3 rfl
            refine z_get E (ci := 2) (N := 8) (C := RX2) (T := TX2) (rfl : vl 13 0 = true) rfl rfl iX2 3 (by decide) rfl f1 rfl dX2_readNumber_45 ?_
            refine z_iconst E dX2_readNumber_48 ?_
            refine z_iadd E dX2_readNumber_49 ?_
            refine z_put E (ci := 2) (N := 8) (C := RX2) (T := TX2) (ty := .int) (rfl : vl 13 0 = true) (updI (Vl_4 13 0) 3 ((Vl_4 13 0 3) + 1)) rfl rfl iX2 tyX2 tyX2_ok nmX2 3 (by decide) rfl f1 rfl rfl rfl rfl (Nat.le_of_ble_eq_true rfl) rfl dX2_readNumber_50 ?_
            obtain ⟨V15, hV15⟩ : ∃ Z : Vt, Z = up Vl_4 13 0 (updI (Vl_4 13 0) 3 ((Vl_4 13 0 3) + 1)) := ⟨_, rfl⟩
            rw [← hV15]
            have hB15 : BV V15 := hV15 ▸ BV_up hBl_4 (by intro _; omega)
            refine z_goto E 4 dX2_readNumber_53 rfl ?_
            exact ih_4 (((num * 10) + (shN (Vl_4 14 0) (Vl_4 13 0 2) (Vl_4 13 0 3))) - 48) (d + 1) V15 hB15 (by omega) (by omega) (all_s hda ⟨by omega, by omega, by omega⟩) (by rw [nmV_s hd0, ← hn]; omega) (by omega) (by rw [hV15, zq3, hVl, up_s, updI_2, Int.add_assoc]; exact upup _ _ _ _ _) (by omega)
  exact lp_4_1 ((3 - 0 : Int).toNat + 1) 0 0 V hB (by omega) (by omega) all_0 rfl (by omega) (by rw [updI_id0]; exact up_self.symm) (Nat.lt_succ_self _)
