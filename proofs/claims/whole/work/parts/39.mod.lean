set_option maxHeartbeats 4000000 in
set_option maxRecDepth 100000 in
theorem kX6_isAt (l : Launch) (G : Gl) (P : Nat → Nat) (V : Vt) (least : Int) (most : Int) (hB : BV V) (ht : 0 ≤ V 16 0 8 ∧ V 16 0 6 ≤ 60) (a1 : inR least) (a2 : inR most) : Met l yX6_isAt wsX6_isAt ({ frames := 1, cells := 0, slots := 0, locals := 22 }) (va_Pc [.ref (ad G 16 0), .int (iI least), .int (iI most)] (Sg G P V)) (Qk G mkI (dt (b2i (V 16 0 8 < V 16 0 6 ∧ least ≤ V 20 0 (V 16 0 8) ∧ V 20 0 (V 16 0 8) ≤ most)) P V)) 0 0 (mem G) := by
  refine z_met (cc := cX6_isAt) (nL := 3) (ret := (some .boolean)) (own := RX6) (by decide +kernel) rfl rfl (Nat.le_of_ble_eq_true rfl) (zz_cat rfl) (L := [some (.ref (ad G 16 0)), some (.int (iI least)), some (.int (iI most))]) rfl ?_
  intro X E
  have iX6 : ∀ x ∈ wsX60, x ∈ wsX6_isAt := by decide +kernel
  have f0 : Cond.fieldLink RX6 201 "SharedStatesModel" "spot" "I" ∈ wsX6_isAt := by decide +kernel
  have f1 : Cond.fieldLink RX6 198 "SharedStatesModel" "typed" "I" ∈ wsX6_isAt := by decide +kernel
  have f2 : Cond.fieldLink RX6 19 "SharedStatesModel" "text" "[I" ∈ wsX6_isAt := by decide +kernel
  refine z_aload_n E dX6_isAt_0 0 rfl rfl ?_
  have hr_1 := hB.g 16 0 8 rfl
  refine z_get E (ci := 6) (N := 16) (C := RX6) (T := TX6) (rfl : vl 16 0 = true) rfl rfl iX6 8 (by decide) rfl f0 rfl dX6_isAt_1 ?_
  refine z_aload_n E dX6_isAt_4 0 rfl rfl ?_
  have hr_2 := hB.g 16 0 6 rfl
  refine z_get E (ci := 6) (N := 16) (C := RX6) (T := TX6) (rfl : vl 16 0 = true) rfl rfl iX6 6 (by decide) rfl f1 rfl dX6_isAt_5 ?_
  refine z_icmp_ge E 32 dX6_isAt_8 rfl (by omega) (by omega) (fun c_3 => ?_) (fun c_3 => ?_)
  · skip
    refine z_iconst E dX6_isAt_32 ?_
    exact z_zret E dX6_isAt_33 (by first | decide | omega) (by first | exact ⟨(b2i_t (by omega)).symm, rfl, rfl⟩ | exact ⟨(b2i_f (by omega)).symm, rfl, rfl⟩)
  · skip
    refine z_aload_n E dX6_isAt_11 0 rfl rfl ?_
    refine z_get E (ci := 6) (N := 16) (C := RX6) (T := TX6) (rfl : vl 16 0 = true) rfl rfl iX6 5 (by decide) rfl f2 rfl dX6_isAt_12 ?_
    refine z_aload_n E dX6_isAt_15 0 rfl rfl ?_
    refine z_get E (ci := 6) (N := 16) (C := RX6) (T := TX6) (rfl : vl 16 0 = true) rfl rfl iX6 8 (by decide) rfl f0 rfl dX6_isAt_16 ?_
    refine z_iald E (rfl : vl 20 0 = true) 60 rfl (by omega) (by omega) (by omega) dX6_isAt_19 ?_
    have hr_4 := hB.g 20 0 (V 16 0 8) rfl
    refine z_iload_n E dX6_isAt_20 1 rfl rfl ?_
    refine z_iload_n E dX6_isAt_21 2 rfl rfl ?_
    refine z_callS E (n := 3) (st := []) [.int (iI (V 20 0 (V 16 0 8))), .int (iI least), .int (iI most)] (kX6_in l G P V (V 20 0 (V 16 0 8)) least most (by omega) (by omega) (by omega)) gX6_isAt_X6_in rfl ⟨rfl, rfl⟩ (by decide +kernel) ⟨Nat.le_of_ble_eq_true rfl, Nat.le_of_ble_eq_true rfl⟩ rfl rfl (Nat.le_of_ble_eq_true rfl) rfl dX6_isAt_22 (z_dtI ?_)
    refine z_ifeq_b E 32 dX6_isAt_25 rfl (fun c_6 => ?_) (fun c_6 => ?_)
    · skip
      refine z_iconst E dX6_isAt_32 ?_
      exact z_zret E dX6_isAt_33 (by first | decide | omega) (by first | exact ⟨(b2i_t (by omega)).symm, rfl, rfl⟩ | exact ⟨(b2i_f (by omega)).symm, rfl, rfl⟩)
    · skip
      refine z_iconst E dX6_isAt_28 ?_
      refine z_goto E 33 dX6_isAt_29 rfl ?_
      exact z_zret E dX6_isAt_33 (by first | decide | omega) (by first | exact ⟨(b2i_t (by omega)).symm, rfl, rfl⟩ | exact ⟨(b2i_f (by omega)).symm, rfl, rfl⟩)

set_option maxHeartbeats 4000000 in
set_option maxRecDepth 100000 in
theorem kX6_sign (l : Launch) (G : Gl) (P : Nat → Nat) (V : Vt) (sg : Int) (hB : BV V) (ht : 0 ≤ V 16 0 8 ∧ V 16 0 6 ≤ 60) (a1 : inR sg) : Met l yX6_sign wsX6_sign ({ frames := 2, cells := 0, slots := 0, locals := 44 }) (va_Pc [.ref (ad G 16 0), .int (iI sg)] (Sg G P V)) (Qk G mkI (fun r P' V' => P' = P ∧ BV V' ∧ (((V 16 0 8 < V 16 0 6 ∧ sg ≤ V 20 0 (V 16 0 8) ∧ V 20 0 (V 16 0 8) ≤ sg) ∧ r = 1 ∧ V' = up V 16 0 (updI (V 16 0) 8 (V 16 0 8 + 1))) ∨ (¬ (V 16 0 8 < V 16 0 6 ∧ sg ≤ V 20 0 (V 16 0 8) ∧ V 20 0 (V 16 0 8) ≤ sg) ∧ r = 0 ∧ V' = V)))) 0 0 (mem G) := by
  refine z_met (cc := cX6_sign) (nL := 3) (ret := (some .boolean)) (own := RX6) (by decide +kernel) rfl rfl (Nat.le_of_ble_eq_true rfl) (zz_cat rfl) (L := [some (.ref (ad G 16 0)), some (.int (iI sg)), none]) rfl ?_
  intro X E
  have iX6 : ∀ x ∈ wsX60, x ∈ wsX6_sign := by decide +kernel
  have f0 : Cond.fieldLink RX6 201 "SharedStatesModel" "spot" "I" ∈ wsX6_sign := by decide +kernel
  refine z_aload_n E dX6_sign_0 0 rfl rfl ?_
  refine z_iload_n E dX6_sign_1 1 rfl rfl ?_
  refine z_iload_n E dX6_sign_2 1 rfl rfl ?_
  refine z_callV E (ci := 6) (N := 16) (C := RX6) (T := TX6) (n := 2) (st := []) (rfl : vl 16 0 = true) rfl rfl [.int (iI sg), .int (iI sg)] (kX6_isAt l G P V sg sg hB (by omega) (by omega) (by omega)) gX6_sign_X6_isAt rfl ⟨rfl, rfl⟩ (by decide +kernel) ⟨Nat.le_of_ble_eq_true rfl, Nat.le_of_ble_eq_true rfl⟩ rfl rfl (Nat.le_of_ble_eq_true rfl) rfl dX6_sign_3 (z_dtI ?_)
  refine z_istore_n E dX6_sign_6 2 rfl (L' := [some (.ref (ad G 16 0)), some (.int (iI sg)), some (.int (iI (b2i (V 16 0 8 < V 16 0 6 ∧ sg ≤ V 20 0 (V 16 0 8) ∧ V 20 0 (V 16 0 8) ≤ sg))))]) (Nat.le_of_ble_eq_true rfl) rfl ?_
  refine z_aload_n E dX6_sign_7 0 rfl rfl ?_
  refine z_dup E dX6_sign_8 rfl ?_
  have hr_2 := hB.g 16 0 8 rfl
  refine z_get E (ci := 6) (N := 16) (C := RX6) (T := TX6) (rfl : vl 16 0 = true) rfl rfl iX6 8 (by decide) rfl f0 rfl dX6_sign_9 ?_
  refine z_iload_n E dX6_sign_12 2 rfl rfl ?_
  refine z_ifeq_b E 20 dX6_sign_13 rfl (fun c_3 => ?_) (fun c_3 => ?_)
  · skip
    refine z_iconst E dX6_sign_20 ?_
    refine z_iadd E dX6_sign_21 ?_
    refine z_put E (ci := 6) (N := 16) (C := RX6) (T := TX6) (ty := .int) (rfl : vl 16 0 = true) (updI (V 16 0) 8 ((V 16 0 8) + 0)) rfl rfl iX6 tyX6 tyX6_ok nmX6 8 (by decide) rfl f0 rfl rfl rfl rfl (Nat.le_of_ble_eq_true rfl) rfl dX6_sign_22 ?_
    obtain ⟨V4, hV4⟩ : ∃ Z : Vt, Z = up V 16 0 (updI (V 16 0) 8 ((V 16 0 8) + 0)) := ⟨_, rfl⟩
    rw [← hV4]
    have hB4 : BV V4 := hV4 ▸ BV_up hB (by intro _; omega)
    refine z_iload_n E dX6_sign_25 2 rfl rfl ?_
    exact z_zret E dX6_sign_26 (b2i_01 _) (by first | exact ⟨rfl, hB4, Or.inl ⟨by assumption, (b2i_t (by assumption)), hV4⟩⟩ | exact ⟨rfl, hB4, Or.inr ⟨by assumption, (b2i_f (by assumption)), by rw [hV4, updI_id0]; exact up_self⟩⟩)
  · skip
    refine z_iconst E dX6_sign_16 ?_
    refine z_goto E 21 dX6_sign_17 rfl ?_
    refine z_iadd E dX6_sign_21 ?_
    refine z_put E (ci := 6) (N := 16) (C := RX6) (T := TX6) (ty := .int) (rfl : vl 16 0 = true) (updI (V 16 0) 8 ((V 16 0 8) + 1)) rfl rfl iX6 tyX6 tyX6_ok nmX6 8 (by decide) rfl f0 rfl rfl rfl rfl (Nat.le_of_ble_eq_true rfl) rfl dX6_sign_22 ?_
    obtain ⟨V5, hV5⟩ : ∃ Z : Vt, Z = up V 16 0 (updI (V 16 0) 8 ((V 16 0 8) + 1)) := ⟨_, rfl⟩
    rw [← hV5]
    have hB5 : BV V5 := hV5 ▸ BV_up hB (by intro _; omega)
    refine z_iload_n E dX6_sign_25 2 rfl rfl ?_
    exact z_zret E dX6_sign_26 (b2i_01 _) (by first | exact ⟨rfl, hB5, Or.inl ⟨by assumption, (b2i_t (by assumption)), hV5⟩⟩ | exact ⟨rfl, hB5, Or.inr ⟨by assumption, (b2i_f (by assumption)), by rw [hV5, updI_id0]; exact up_self⟩⟩)

set_option maxHeartbeats 4000000 in
set_option maxRecDepth 100000 in
theorem kX6_numbersOf (l : Launch) (G : Gl) (P : Nat → Nat) (V : Vt) (x : Int) (a1 : inR x) : Met l yX6_numbersOf wsX6_numbersOf ({ frames := 0, cells := 0, slots := 0, locals := 0 }) (va_Pc [.int (iI x)] (Sg G P V)) (Qk G mkI (dt (if x = 119 then 3 else if x = 102 then 4 else if x = 109 then 2 else if x = 98 ∨ x = 120 then 1 else 0) P V)) 0 0 (mem G) := by
  refine z_met (cc := cX6_numbersOf) (nL := 1) (ret := (some .int)) (own := RX6) (by decide +kernel) rfl rfl (Nat.le_of_ble_eq_true rfl) (zz_cat rfl) (L := [some (.int (iI x))]) rfl ?_
  intro X E
  refine z_iload_n E dX6_numbersOf_0 0 rfl rfl ?_
  refine z_bipush E dX6_numbersOf_1 rfl ?_
  refine z_icmp_ne E 10 dX6_numbersOf_3 rfl (by omega) (by omega) (fun c_1 => ?_) (fun c_1 => ?_)
  · skip
    refine z_iload_n E dX6_numbersOf_10 0 rfl rfl ?_
    refine z_bipush E dX6_numbersOf_11 rfl ?_
    refine z_icmp_ne E 20 dX6_numbersOf_13 rfl (by omega) (by omega) (fun c_2 => ?_) (fun c_2 => ?_)
    · skip
      refine z_iload_n E dX6_numbersOf_20 0 rfl rfl ?_
      refine z_bipush E dX6_numbersOf_21 rfl ?_
      refine z_icmp_ne E 30 dX6_numbersOf_23 rfl (by omega) (by omega) (fun c_3 => ?_) (fun c_3 => ?_)
      · skip
        refine z_iload_n E dX6_numbersOf_30 0 rfl rfl ?_
        refine z_bipush E dX6_numbersOf_31 rfl ?_
        refine z_icmp_eq E 42 dX6_numbersOf_33 rfl (by omega) (by omega) (fun c_4 => ?_) (fun c_4 => ?_)
        · skip
          refine z_iconst E dX6_numbersOf_42 ?_
          refine z_goto E 47 dX6_numbersOf_43 rfl ?_
          exact z_iret E dX6_numbersOf_47 (⟨by first | (rw [if_pos (by omega)]; done) | (rw [if_neg (by omega), if_pos (by omega)]; done) | (rw [if_neg (by omega), if_neg (by omega), if_pos (by omega)]; done) | (rw [if_neg (by omega), if_neg (by omega), if_neg (by omega), if_pos (by omega)]; done) | (rw [if_neg (by omega), if_neg (by omega), if_neg (by omega), if_neg (by omega)]; done), rfl, rfl⟩)
        · skip
          refine z_iload_n E dX6_numbersOf_36 0 rfl rfl ?_
          refine z_bipush E dX6_numbersOf_37 rfl ?_
          refine z_icmp_ne E 46 dX6_numbersOf_39 rfl (by omega) (by omega) (fun c_5 => ?_) (fun c_5 => ?_)
          · skip
            refine z_iconst E dX6_numbersOf_46 ?_
            exact z_iret E dX6_numbersOf_47 (⟨by first | (rw [if_pos (by omega)]; done) | (rw [if_neg (by omega), if_pos (by omega)]; done) | (rw [if_neg (by omega), if_neg (by omega), if_pos (by omega)]; done) | (rw [if_neg (by omega), if_neg (by omega), if_neg (by omega), if_pos (by omega)]; done) | (rw [if_neg (by omega), if_neg (by omega), if_neg (by omega), if_neg (by omega)]; done), rfl, rfl⟩)
          · skip
            refine z_iconst E dX6_numbersOf_42 ?_
            refine z_goto E 47 dX6_numbersOf_43 rfl ?_
            exact z_iret E dX6_numbersOf_47 (⟨by first | (rw [if_pos (by omega)]; done) | (rw [if_neg (by omega), if_pos (by omega)]; done) | (rw [if_neg (by omega), if_neg (by omega), if_pos (by omega)]; done) | (rw [if_neg (by omega), if_neg (by omega), if_neg (by omega), if_pos (by omega)]; done) | (rw [if_neg (by omega), if_neg (by omega), if_neg (by omega), if_neg (by omega)]; done), rfl, rfl⟩)
      · skip
        refine z_iconst E dX6_numbersOf_26 ?_
        refine z_goto E 47 dX6_numbersOf_27 rfl ?_
        exact z_iret E dX6_numbersOf_47 (⟨by first | (rw [if_pos (by omega)]; done) | (rw [if_neg (by omega), if_pos (by omega)]; done) | (rw [if_neg (by omega), if_neg (by omega), if_pos (by omega)]; done) | (rw [if_neg (by omega), if_neg (by omega), if_neg (by omega), if_pos (by omega)]; done) | (rw [if_neg (by omega), if_neg (by omega), if_neg (by omega), if_neg (by omega)]; done), rfl, rfl⟩)
    · skip
      refine z_iconst E dX6_numbersOf_16 ?_
      refine z_goto E 47 dX6_numbersOf_17 rfl ?_
      exact z_iret E dX6_numbersOf_47 (⟨by first | (rw [if_pos (by omega)]; done) | (rw [if_neg (by omega), if_pos (by omega)]; done) | (rw [if_neg (by omega), if_neg (by omega), if_pos (by omega)]; done) | (rw [if_neg (by omega), if_neg (by omega), if_neg (by omega), if_pos (by omega)]; done) | (rw [if_neg (by omega), if_neg (by omega), if_neg (by omega), if_neg (by omega)]; done), rfl, rfl⟩)
  · skip
    refine z_iconst E dX6_numbersOf_6 ?_
    refine z_goto E 47 dX6_numbersOf_7 rfl ?_
    exact z_iret E dX6_numbersOf_47 (⟨by first | (rw [if_pos (by omega)]; done) | (rw [if_neg (by omega), if_pos (by omega)]; done) | (rw [if_neg (by omega), if_neg (by omega), if_pos (by omega)]; done) | (rw [if_neg (by omega), if_neg (by omega), if_neg (by omega), if_pos (by omega)]; done) | (rw [if_neg (by omega), if_neg (by omega), if_neg (by omega), if_neg (by omega)]; done), rfl, rfl⟩)

set_option maxHeartbeats 4000000 in
set_option maxRecDepth 100000 in
theorem kX6_numbered (l : Launch) (G : Gl) (P : Nat → Nat) (V : Vt) (q : Int) (hB : BV V) (ht : 0 ≤ V 16 0 8 ∧ V 16 0 6 ≤ 60) (a1 : 0 ≤ q) (a2 : q < 4) : Met l yX6_numbered wsX6_numbered ({ frames := 2, cells := 0, slots := 0, locals := 44 }) (va_Pc [.ref (ad G 16 0), .int (iI q)] (Sg G P V)) (Qk G mkI (fun r P' V' => P' = P ∧ BV V' ∧ ∃ d, DGm (V 20 0) (V 16 0 6) (V 16 0 8) d ∧ r = b2i (0 < d) ∧ V' = nmW V q d ∧ 0 ≤ nmV (V 20 0) (V 16 0 8) d.toNat ∧ nmV (V 20 0) (V 16 0 8) d.toNat ≤ 999)) 0 0 (mem G) := by
  refine z_met (cc := cX6_numbered) (nL := 3) (ret := (some .boolean)) (own := RX6) (by decide +kernel) rfl rfl (Nat.le_of_ble_eq_true rfl) (zz_cat rfl) (L := [some (.ref (ad G 16 0)), some (.int (iI q)), none]) rfl ?_
  intro X E
  have iX6 : ∀ x ∈ wsX60, x ∈ wsX6_numbered := by decide +kernel
  have f0 : Cond.fieldLink RX6 201 "SharedStatesModel" "spot" "I" ∈ wsX6_numbered := by decide +kernel
  have f1 : Cond.fieldLink RX6 25 "SharedStatesModel" "told" "[I" ∈ wsX6_numbered := by decide +kernel
  have f2 : Cond.fieldLink RX6 19 "SharedStatesModel" "text" "[I" ∈ wsX6_numbered := by decide +kernel
  refine z_aload_n E dX6_numbered_0 0 rfl rfl ?_
  have hr_1 := hB.g 16 0 8 rfl
  refine z_get E (ci := 6) (N := 16) (C := RX6) (T := TX6) (rfl : vl 16 0 = true) rfl rfl iX6 8 (by decide) rfl f0 rfl dX6_numbered_1 ?_
  refine z_istore_n E dX6_numbered_4 2 rfl (L' := [some (.ref (ad G 16 0)), some (.int (iI q)), some (.int (iI (V 16 0 8)))]) (Nat.le_of_ble_eq_true rfl) rfl ?_
  refine z_aload_n E dX6_numbered_5 0 rfl rfl ?_
  refine z_get E (ci := 6) (N := 16) (C := RX6) (T := TX6) (rfl : vl 16 0 = true) rfl rfl iX6 14 (by decide) rfl f1 rfl dX6_numbered_6 ?_
  refine z_iload_n E dX6_numbered_9 1 rfl rfl ?_
  refine z_iconst E dX6_numbered_10 ?_
  refine z_iast E (rfl : vl 22 0 = true) 4 (fun _ => rfl) (by omega) (by omega) (by omega) dX6_numbered_11 ?_
  obtain ⟨V2, hV2⟩ : ∃ Z : Vt, Z = up V 22 0 (updI (V 22 0) q 0) := ⟨_, rfl⟩
  rw [← hV2]
  have hB2 : BV V2 := hV2 ▸ BV_up hB (by intro _; omega)
  have lp_12_3 : ∀ (fuel : Nat) (d : Int) (Vl_12 : Vt), BV Vl_12 → (0 ≤ d) → (d ≤ 3) → (∀ j, 0 ≤ j → j < d → dgA (V 20 0) (V 16 0 6) (V 16 0 8 + j)) → (0 ≤ nmV (V 20 0) (V 16 0 8) (d).toNat ∧ ((d = 0 ∧ nmV (V 20 0) (V 16 0 8) (d).toNat = 0) ∨ (d = 1 ∧ nmV (V 20 0) (V 16 0 8) (d).toNat ≤ 9) ∨ (d = 2 ∧ nmV (V 20 0) (V 16 0 8) (d).toNat ≤ 99) ∨ (d = 3 ∧ nmV (V 20 0) (V 16 0 8) (d).toNat ≤ 999))) → (Vl_12 = nmW V q d) → (3 - d : Int).toNat < fuel → Kz X G P Vl_12 [some (.ref (ad G 16 0)), some (.int (iI q)), some (.int (iI (V 16 0 8)))] 12 [] := by
    intro fuel
    induction fuel with
    | zero => intro d Vl_12 hBl_12 hd0 hd1 hda hv hVl hf_12; exact absurd hf_12 (Nat.not_lt_zero _)
    | succ fuel ih_12 =>
      intro d Vl_12 hBl_12 hd0 hd1 hda hv hVl hf_12
      have zq8 : Vl_12 16 0 8 = V 16 0 8 + d := by rw [hVl] <;> rfl
      have zq6 : Vl_12 16 0 6 = V 16 0 6 := by rw [hVl] <;> rfl
      have zq20 : Vl_12 20 0 = V 20 0 := by rw [hVl] <;> rfl
      have zq22 : Vl_12 22 0 = updI (V 22 0) q (nmV (V 20 0) (V 16 0 8) d.toNat) := by rw [hVl] <;> rfl
      have zq22q : Vl_12 22 0 q = nmV (V 20 0) (V 16 0 8) d.toNat := by rw [zq22]; exact if_pos rfl
      have zq16 : Vl_12 16 0 = updI (V 16 0) 8 (V 16 0 8 + d) := by rw [hVl] <;> rfl
      refine z_aload_n E dX6_numbered_12 0 rfl rfl ?_
      refine z_bipush E dX6_numbered_13 rfl ?_
      refine z_bipush E dX6_numbered_15 rfl ?_
      refine z_callV E (ci := 6) (N := 16) (C := RX6) (T := TX6) (n := 2) (st := []) (rfl : vl 16 0 = true) rfl rfl [.int (iI 48), .int (iI 57)] (kX6_isAt l G P Vl_12 48 57 hBl_12 (by omega) (by omega) (by omega)) gX6_numbered_X6_isAt rfl ⟨rfl, rfl⟩ (by decide +kernel) ⟨Nat.le_of_ble_eq_true rfl, Nat.le_of_ble_eq_true rfl⟩ rfl rfl (Nat.le_of_ble_eq_true rfl) rfl dX6_numbered_17 (z_dtI ?_)
      rw [zq20, zq8, zq6]
      refine z_ifeq_b E 74 dX6_numbered_20 rfl (fun c_5 => ?_) (fun c_5 => ?_)
      · skip
        refine z_aload_n E dX6_numbered_74 0 rfl rfl ?_
        have hr_6 := hBl_12.g 16 0 8 rfl
        refine z_get E (ci := 6) (N := 16) (C := RX6) (T := TX6) (rfl : vl 16 0 = true) rfl rfl iX6 8 (by decide) rfl f0 rfl dX6_numbered_75 ?_
        refine z_iload_n E dX6_numbered_78 2 rfl rfl ?_
        refine z_icmp_le E 86 dX6_numbered_79 rfl (by omega) (by omega) (fun c_7 => ?_) (fun c_7 => ?_)
        · skip
          refine z_iconst E dX6_numbered_86 ?_
          exact z_zret E dX6_numbered_87 (by first | decide | omega) (⟨rfl, hBl_12, d, ⟨hd0, hd1, hda, by first | exact Or.inl (by omega) | exact Or.inr (by assumption)⟩, by first | exact (b2i_t (by omega)).symm | exact (b2i_f (by omega)).symm, hVl, by omega, by omega⟩)
        · skip
          refine z_iconst E dX6_numbered_82 ?_
          refine z_goto E 87 dX6_numbered_83 rfl ?_
          exact z_zret E dX6_numbered_87 (by first | decide | omega) (⟨rfl, hBl_12, d, ⟨hd0, hd1, hda, by first | exact Or.inl (by omega) | exact Or.inr (by assumption)⟩, by first | exact (b2i_t (by omega)).symm | exact (b2i_f (by omega)).symm, hVl, by omega, by omega⟩)
      · skip
        refine z_aload_n E dX6_numbered_23 0 rfl rfl ?_
        have hr_8 := hBl_12.g 16 0 8 rfl
        refine z_get E (ci := 6) (N := 16) (C := RX6) (T := TX6) (rfl : vl 16 0 = true) rfl rfl iX6 8 (by decide) rfl f0 rfl dX6_numbered_24 ?_
        refine z_iload_n E dX6_numbered_27 2 rfl rfl ?_
        refine z_isub E dX6_numbered_28 ?_
        refine z_iconst E dX6_numbered_29 ?_
        refine z_icmp_ge E 74 dX6_numbered_30 rfl (by omega) (by omega) (fun c_9 => ?_) (fun c_9 => ?_)
        · skip
          refine z_aload_n E dX6_numbered_74 0 rfl rfl ?_
          refine z_get E (ci := 6) (N := 16) (C := RX6) (T := TX6) (rfl : vl 16 0 = true) rfl rfl iX6 8 (by decide) rfl f0 rfl dX6_numbered_75 ?_
          refine z_iload_n E dX6_numbered_78 2 rfl rfl ?_
          refine z_icmp_le E 86 dX6_numbered_79 rfl (by omega) (by omega) (fun c_10 => ?_) (fun c_10 => ?_)
          · skip
            refine z_iconst E dX6_numbered_86 ?_
            exact z_zret E dX6_numbered_87 (by first | decide | omega) (⟨rfl, hBl_12, d, ⟨hd0, hd1, hda, by first | exact Or.inl (by omega) | exact Or.inr (by assumption)⟩, by first | exact (b2i_t (by omega)).symm | exact (b2i_f (by omega)).symm, hVl, by omega, by omega⟩)
          · skip
            refine z_iconst E dX6_numbered_82 ?_
            refine z_goto E 87 dX6_numbered_83 rfl ?_
            exact z_zret E dX6_numbered_87 (by first | decide | omega) (⟨rfl, hBl_12, d, ⟨hd0, hd1, hda, by first | exact Or.inl (by omega) | exact Or.inr (by assumption)⟩, by first | exact (b2i_t (by omega)).symm | exact (b2i_f (by omega)).symm, hVl, by omega, by omega⟩)
        · skip
          refine z_aload_n E dX6_numbered_33 0 rfl rfl ?_
          refine z_get E (ci := 6) (N := 16) (C := RX6) (T := TX6) (rfl : vl 16 0 = true) rfl rfl iX6 14 (by decide) rfl f1 rfl dX6_numbered_34 ?_
          refine z_iload_n E dX6_numbered_37 1 rfl rfl ?_
          refine z_bipush E dX6_numbered_38 rfl ?_
          refine z_aload_n E dX6_numbered_40 0 rfl rfl ?_
          refine z_get E (ci := 6) (N := 16) (C := RX6) (T := TX6) (rfl : vl 16 0 = true) rfl rfl iX6 14 (by decide) rfl f1 rfl dX6_numbered_41 ?_
          refine z_iload_n E dX6_numbered_44 1 rfl rfl ?_
          refine z_iald E (rfl : vl 22 0 = true) 4 rfl (by omega) (by omega) (by omega) dX6_numbered_45 ?_
          have hr_11 := hBl_12.g 22 0 q rfl
          refine z_imul E dX6_numbered_46 ?_
          refine z_aload_n E dX6_numbered_47 0 rfl rfl ?_
          refine z_get E (ci := 6) (N := 16) (C := RX6) (T := TX6) (rfl : vl 16 0 = true) rfl rfl iX6 5 (by decide) rfl f2 rfl dX6_numbered_48 ?_
          refine z_aload_n E dX6_numbered_51 0 rfl rfl ?_
          refine z_get E (ci := 6) (N := 16) (C := RX6) (T := TX6) (rfl : vl 16 0 = true) rfl rfl iX6 8 (by decide) rfl f0 rfl dX6_numbered_52 ?_
          refine z_iald E (rfl : vl 20 0 = true) 60 rfl (by omega) (by omega) (by omega) dX6_numbered_55 ?_
          have hr_12 := hBl_12.g 20 0 (Vl_12 16 0 8) rfl
          refine z_iadd E dX6_numbered_56 ?_
          refine z_bipush E dX6_numbered_57 rfl ?_
          refine z_isub E dX6_numbered_59 ?_
          refine z_iast E (rfl : vl 22 0 = true) 4 (fun _ => rfl) (by omega) (by omega) (by omega) dX6_numbered_60 ?_
          obtain ⟨V13, hV13⟩ : ∃ Z : Vt, Z = up Vl_12 22 0 (updI (Vl_12 22 0) q (((10 * (Vl_12 22 0 q)) + (Vl_12 20 0 (Vl_12 16 0 8))) - 48)) := ⟨_, rfl⟩
          rw [← hV13]
          have hB13 : BV V13 := hV13 ▸ BV_up hBl_12 (by intro _; rw [zq22q, zq20, zq8]; omega)
          refine z_aload_n E dX6_numbered_61 0 rfl rfl ?_
          refine z_dup E dX6_numbered_62 rfl ?_
          have hr_14 := hB13.g 16 0 8 rfl
          refine z_get E (ci := 6) (N := 16) (C := RX6) (T := TX6) (rfl : vl 16 0 = true) rfl rfl iX6 8 (by decide) rfl f0 rfl dX6_numbered_63 ?_
          refine z_iconst E dX6_numbered_66 ?_
          refine z_iadd E dX6_numbered_67 ?_
          refine z_put E (ci := 6) (N := 16) (C := RX6) (T := TX6) (ty := .int) (rfl : vl 16 0 = true) (updI (V13 16 0) 8 ((V13 16 0 8) + 1)) rfl rfl iX6 tyX6 tyX6_ok nmX6 8 (by decide) rfl f0 rfl rfl rfl rfl (Nat.le_of_ble_eq_true rfl) rfl dX6_numbered_68 ?_
          obtain ⟨V15, hV15⟩ : ∃ Z : Vt, Z = up V13 16 0 (updI (V13 16 0) 8 ((V13 16 0 8) + 1)) := ⟨_, rfl⟩
          rw [← hV15]
          have hB15 : BV V15 := hV15 ▸ BV_up hB13 (by intro _; have zqz : V13 16 0 8 = V 16 0 8 + d := (by rw [hV13]; exact zq8); omega)
          refine z_goto E 12 dX6_numbered_71 rfl ?_
          exact ih_12 (d + 1) V15 hB15 (by omega) (by omega) (all_s hda (by assumption)) (by rw [nmV_s hd0]; omega) (by rw [hV15, hV13]; simp only [up_s, up_r (show (16 : Nat) ≠ 22 by decide), zq22q, zq20, zq8, zq22, zq16]; rw [hVl]; exact nm_s hd0) (by omega)
  exact lp_12_3 ((3 - 0 : Int).toNat + 1) 0 V2 hB2 (by omega) (by omega) all_0 (by refine ⟨Int.le_refl _, Or.inl ⟨rfl, rfl⟩⟩) (by rw [hV2]; exact nm_0) (Nat.lt_succ_self _)
