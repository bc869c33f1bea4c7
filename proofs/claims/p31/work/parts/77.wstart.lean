section NS
variable {X : Cx} {l0 : Launch} {G : Gl} {R0 : Room} {cc : ByteArray} {nL : Nat} {Ts : List Cond} {own : String} {A : Nat → Prop} {ws : va_W} {L : List (Option Value)} {mc ms pc : Nat} {st : List Value}
theorem n_astore_n (E : Ec X l0 G R0 cc nL Ts own A) {k : Fin 4} {x : Nat} (hdg : decode cc pc = .ok (.astore_n k, 1)) (i : Nat) (hi : (k : Nat) = i) {L' : List (Option Value)} (hn : i < L.length) (hl : L.set i (some (.ref x)) = L') (kk : Kn X G A ws L' mc ms (pc + 1) st) (hk : okS L i = true := by rfl) : Kn X G A ws L mc ms pc (.ref x :: st) := by
  obtain ⟨p, l, e, R, s, m, args, below, meth, c, Q, AA⟩ := X
  intro H locs ls hP hD hS hL
  subst hl
  exact lv_astore_n E.1.1 E.1.2.1 hdg hi hL.enum hn rfl (fun ls' hl' => kk H locs ls' hP hD hS (hL.store hk hl'))
theorem n_astore (E : Ec X l0 G R0 cc nL Ts own A) {i x : Nat} (hdg : decode cc pc = .ok (.astore i, 2)) {L' : List (Option Value)} (hn : i < L.length) (hl : L.set i (some (.ref x)) = L') (kk : Kn X G A ws L' mc ms (pc + 2) st) (hk : okS L i = true := by rfl) : Kn X G A ws L mc ms pc (.ref x :: st) := by
  obtain ⟨p, l, e, R, s, m, args, below, meth, c, Q, AA⟩ := X
  intro H locs ls hP hD hS hL
  subst hl
  exact lv_astore E.1.1 E.1.2.1 hdg hL.enum hn rfl (fun ls' hl' => kk H locs ls' hP hD hS (hL.store hk hl'))
end NS
theorem whole_start {p : Program} {e : Env} {s : State} {m : MethodId} {below : List Frame} {meth : Method} {c : Code} (l : Launch) (hflags : l.flags = flags0) {b L : Nat} {xs : Nat → Int32} (hL : L ≤ 260) (C0 : lw_At p s m meth c b L xs) : W p l e room_1 s m #[Value.ref b] below meth c s.heap [] 0 0 (lw_Z below #[Value.ref b] s) (entryFrame m ([Value.ref b] : List Value).toArray 12) := by
  obtain ⟨hx, hb, hr, hml, hown, hts, hX, hbl, hlocks, hgv⟩ := id C0
  obtain ⟨D, gi, gw, gl, hK, hXt⟩ := st_known hts
  have hl := lv_entry ([.ref b]) (n := 12) (Nat.le_of_ble_eq_true rfl)
  obtain ⟨h1, h2⟩ := lay_start (av := [.ref b]) (L := [some (.ref b), none, none, none, none, none, none, none, none, none, none, none]) (nL := 12) rfl (Nat.le_of_ble_eq_true rfl)
  rw [lg_entry_eq]
  have E : Ec (p, l, e, room_1, s, m, #[Value.ref b], below, meth, c, lw_Z below #[Value.ref b] s, (fun q : Nat => s.heap.size ≤ q)) l (D, (fun _ _ => 0), gi, gw, gl, false) room_1 cL_law 12 wsL_law RL (fun q : Nat => s.heap.size ≤ q) := ⟨⟨hx, hb, hml, hown, fun w hw => hts w (wsL_law_in w hw)⟩, hK, hXt, rfl, rfl, fun _ h => h⟩
  have K : Kn (p, l, e, room_1, s, m, #[Value.ref b], below, meth, c, lw_Z below #[Value.ref b] s, (fun q : Nat => s.heap.size ≤ q)) (D, (fun _ _ => 0), gi, gw, gl, false) (fun q : Nat => s.heap.size ≤ q) [] [some (.ref b), none, none, none, none, none, none, none, none, none, none, none] 0 0 0 [] := by
    have f0 : Cond.classLink RL 56 RX5 ∈ wsL_law := wsL_law_r1_of _ (List.mem_of_getElem? (i := 0) rfl)
    have f1 : Cond.instantiable RX5 4 ∈ wsL_law := wsL_law_r1_of _ (List.mem_of_getElem? (i := 1) rfl)
    have f2 : Cond.initialized RX5 ∈ wsL_law := wsL_law_r1_of _ (List.mem_of_getElem? (i := 2) rfl)
    have f3 : Cond.arrayClass .int ∈ wsL_law := wsL_law_r1_of _ (List.mem_of_getElem? (i := 3) rfl)
    have f4 : Cond.arrayClass .long ∈ wsL_law := wsL_law_r1_of _ (List.mem_of_getElem? (i := 4) rfl)
    have f5 : Cond.methodLink RL 154 yX5_init ∈ wsL_law := wsL_law_r1_of _ (List.mem_of_getElem? (i := 7) rfl)
    have f6 : Cond.instanceMethod yX5_init ∈ wsL_law := wsL_law_r1_of _ (List.mem_of_getElem? (i := 8) rfl)
    refine n_new E inlX5 tyX5 tyX5_ok f0 f1 f2 (ci := 5) (fs := [.null, .null, .null, .null]) rfl (fun j hj => by rcases (show j = 0 ∨ j = 1 ∨ j = 2 ∨ j = 3 by omega) with rfl | rfl | rfl | rfl <;> rfl) 1 4 rfl rfl (Nat.le_of_ble_eq_true rfl) (Nat.le_of_ble_eq_true rfl) dL_law_0 (fun q0 => ?_)
    refine n_dup E dL_law_3 rfl ?_
    refine n_call E (wr := []) (q := q0) (e0 := .inr (5, [.null, .null, .null, .null])) (st := [.ref q0]) (L := [some (.ref b), none, none, none, none, none, none, none, none, none, none, none]) (fun sz' => kX5_init l (D, (fun _ _ => 0), gi, gw, gl, false) q0 sz') gL_law_X5_init rfl ⟨rfl, rfl⟩ f2 f5 f6 rfl (by decide +kernel) ⟨Nat.le_of_ble_eq_true rfl, Nat.le_of_ble_eq_true rfl⟩ rfl (Nat.le_of_ble_eq_true rfl) 66 3413 rfl rfl ⟨Nat.le_of_ble_eq_true rfl, Nat.le_of_ble_eq_true rfl⟩ dL_law_4 (fun w1 hw1 => ?_)
    obtain ⟨ea, eb, ec, ed, ee, ef, ek, er, eo, rfl⟩ := hw1
    refine n_astore_n E dL_law_7 1 rfl (L' := [some (.ref b), some (.ref q0), none, none, none, none, none, none, none, none, none, none]) (Nat.le_of_ble_eq_true rfl) rfl ?_
    refine n_bipush E dL_law_8 rfl ?_
    refine n_newa E f3 6 rfl (Nat.le_of_ble_eq_true rfl) 67 3419 rfl rfl (Nat.le_of_ble_eq_true rfl) (Nat.le_of_ble_eq_true rfl) dL_law_10 (fun q1 => ?_)
    refine n_astore_n E dL_law_12 2 rfl (L' := [some (.ref b), some (.ref q0), some (.ref q1), none, none, none, none, none, none, none, none, none]) (Nat.le_of_ble_eq_true rfl) rfl ?_
    refine n_iconst E dL_law_13 ?_
    refine n_newa E f3 4 rfl (Nat.le_of_ble_eq_true rfl) 68 3423 rfl rfl (Nat.le_of_ble_eq_true rfl) (Nat.le_of_ble_eq_true rfl) dL_law_14 (fun q2 => ?_)
    refine n_astore_n E dL_law_16 3 rfl (L' := [some (.ref b), some (.ref q0), some (.ref q1), some (.ref q2), none, none, none, none, none, none, none, none]) (Nat.le_of_ble_eq_true rfl) rfl ?_
    refine n_bipush E dL_law_17 rfl ?_
    refine n_newa E f3 16 rfl (Nat.le_of_ble_eq_true rfl) 69 3439 rfl rfl (Nat.le_of_ble_eq_true rfl) (Nat.le_of_ble_eq_true rfl) dL_law_19 (fun q3 => ?_)
    refine n_astore E dL_law_21 (L' := [some (.ref b), some (.ref q0), some (.ref q1), some (.ref q2), some (.ref q3), none, none, none, none, none, none, none]) (Nat.le_of_ble_eq_true rfl) rfl ?_
    refine n_bipush E dL_law_23 rfl ?_
    refine n_newa E f3 16 rfl (Nat.le_of_ble_eq_true rfl) 70 3455 rfl rfl (Nat.le_of_ble_eq_true rfl) (Nat.le_of_ble_eq_true rfl) dL_law_25 (fun q4 => ?_)
    refine n_astore E dL_law_27 (L' := [some (.ref b), some (.ref q0), some (.ref q1), some (.ref q2), some (.ref q3), some (.ref q4), none, none, none, none, none, none]) (Nat.le_of_ble_eq_true rfl) rfl ?_
    refine n_bipush E dL_law_29 rfl ?_
    refine n_newaL E f4 16 rfl (Nat.le_of_ble_eq_true rfl) 71 3471 rfl rfl (Nat.le_of_ble_eq_true rfl) (Nat.le_of_ble_eq_true rfl) dL_law_31 (fun q5 => ?_)
    refine n_astore E dL_law_33 (L' := [some (.ref b), some (.ref q0), some (.ref q1), some (.ref q2), some (.ref q3), some (.ref q4), some (.ref q5), none, none, none, none, none]) (Nat.le_of_ble_eq_true rfl) rfl ?_
    refine n_bipush E dL_law_35 rfl ?_
    refine n_newaL E f4 40 rfl (Nat.le_of_ble_eq_true rfl) 72 3511 rfl rfl (Nat.le_of_ble_eq_true rfl) (Nat.le_of_ble_eq_true rfl) dL_law_37 (fun q6 => ?_)
    refine n_astore E dL_law_39 (L' := [some (.ref b), some (.ref q0), some (.ref q1), some (.ref q2), some (.ref q3), some (.ref q4), some (.ref q5), some (.ref q6), none, none, none, none]) (Nat.le_of_ble_eq_true rfl) rfl ?_
    refine n_bipush E dL_law_41 rfl ?_
    refine n_newaL E f4 40 rfl (Nat.le_of_ble_eq_true rfl) 73 3551 rfl rfl (Nat.le_of_ble_eq_true rfl) (Nat.le_of_ble_eq_true rfl) dL_law_43 (fun q7 => ?_)
    refine n_astore E dL_law_45 (L' := [some (.ref b), some (.ref q0), some (.ref q1), some (.ref q2), some (.ref q3), some (.ref q4), some (.ref q5), some (.ref q6), some (.ref q7), none, none, none]) (Nat.le_of_ble_eq_true rfl) rfl ?_
    refine Kn.eq (ws' := eX (D, (fun _ _ => 0), gi, gw, gl, false) q0 ea eb ec ed ee ef ek er eo ++ eN (D, (fun _ _ => 0), gi, gw, gl, false) (fun r => match r with | 16 => q1 | 17 => q2 | 18 => q3 | 19 => q4 | 20 => q5 | 21 => q6 | _ => q7)) rfl ?_
    intro H locs ls hP hD hS hLs
    have pic := st_pic (D := D) (gi := gi) (gw := gw) (gl := gl) (h := q0) (k := ek) (r0 := er) (a := ea) (b := eb) (c := ec) (d := ed) (e := ee) (f := ef) (o := eo) (am := (fun r => match r with | 16 => q1 | 17 => q2 | 18 => q3 | 19 => q4 | 20 => q5 | 21 => q6 | _ => q7)) hP hD
    have E2 : Ev (p, l, e, room_1, s, m, #[Value.ref b], below, meth, c, lw_Z below #[Value.ref b] s, (fun q : Nat => s.heap.size ≤ q)) l (D, adA q0 ea eb ec ed ee ef ek er eo (fun r => match r with | 16 => q1 | 17 => q2 | 18 => q3 | 19 => q4 | 20 => q5 | 21 => q6 | _ => q7), gi, gw, gl, false) room_1 cL_law 12 wsL_law RL := ⟨⟨hx, hb, hml, hown, fun w hw => hts w (wsL_law_in w hw)⟩, hK, pic.2.1, rfl, rfl, pic.2.2⟩
    have hEd : Ed (p, l, e, room_1, s, m, #[Value.ref b], below, meth, c, lw_Z below #[Value.ref b] s, (fun q : Nat => s.heap.size ≤ q)) (D, adA q0 ea eb ec ed ee ef ek er eo (fun r => match r with | 16 => q1 | 17 => q2 | 18 => q3 | 19 => q4 | 20 => q5 | 21 => q6 | _ => q7), gi, gw, gl, false) := by
      intro P V uc us L1 hu hw H1 locs1 ls1 hP1 hS1 hL1
      exact va_forget hS1.2.2 (W.widen hu hw (lw_ret hx hb hr hlocks dL_law_267))
    exact law_walk E2 (fun _ h => h) ⟨hX, hbl, Nat.not_le.mpr hbl⟩ hL rfl hEd H locs ls pic.1 hS hLs
  exact K s.heap [] _ (fun k q h => by simp at h) ⟨fun i j p q h => by simp at h, fun k q h => by simp at h⟩ va_S.rf (Lh_of_has hl h1 h2)
