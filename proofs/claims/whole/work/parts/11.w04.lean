-- BackByNoonOnMonday.tellBooking(LBackByNoonOnMonday$Shop;LBackByNoonOnMonday$Shelf;I)I
noncomputable def fX4_tellBooking (σ : q_St) (h : q_Hp) (a0 : Nat) (a1 : Nat) (x2 : Int32) : Option (Int32 × q_Hp) := ((fX1_number σ h a1 (x2 + (1 : Int32)) (2 : Int32)).bind fun r1 => ((fX1_number σ h a1 (x2 + (3 : Int32)) (1 : Int32)).bind fun r2 => (if (20 : Int32) < r1 then some ((-1 : Int32), h) else (if r2 ≤ (3 : Int32) then ((fX1_number σ h a1 (x2 + (4 : Int32)) (3 : Int32)).bind fun r3 => (q_b2 (fX2_addBooking σ h a0 r1 r2 r3) fun r4 h4 => some (r4, h4))) else some ((-1 : Int32), h)))))
def cdX4_tellBooking : q_Cd := [(0, .aload_n 1), (1, .iload_n 2), (2, .iconst 1), (3, .iadd), (4, .iconst 2), (5, .invokevirtual 379), (8, .istore_n 3), (9, .aload_n 1), (10, .iload_n 2), (11, .iconst 3), (12, .iadd), (13, .iconst 1), (14, .invokevirtual 379), (17, .istore 4), (19, .iload_n 3), (20, .bipush 20), (22, .if_icmp .gt 9), (25, .iload 4), (27, .iconst 3), (28, .if_icmp .le 5), (31, .iconst (-1)), (32, .ireturn), (33, .aload_n 0), (34, .iload_n 3), (35, .iload 4), (37, .aload_n 1), (38, .iload_n 2), (39, .iconst 4), (40, .iadd), (41, .iconst 3), (42, .invokevirtual 379), (45, .invokevirtual 163), (48, .ireturn)]
set_option maxRecDepth 100000 in
theorem cokX4_tellBooking : q_cok cX4_tellBooking cdX4_tellBooking := by unfold q_cok; decide +kernel
set_option maxRecDepth 100000 in
set_option maxHeartbeats 4000000 in
theorem ctX4_tellBooking {l : Launch} {D : va_G} {cy : Nat → Nat} {b0 : Nat} {σ : q_St} {h : q_Hp} (a0 : Nat) (a1 : Nat) (x2 : Int32) {r : Int32} {h' : q_Hp} (ta0 : q_tag σ a0 = 3) (ta1 : q_tag σ a1 = 2) (hf : fX4_tellBooking σ h a0 a1 x2 = some (r, h')) : q_M l yX4_tellBooking cX4_tellBooking 5 (some .int) 3 66 0 0 D cy b0 σ h [.ref a0, .ref a1, .int x2] (some (.int r)) σ h' := by
  unfold fX4_tellBooking at hf
  refine q_enter (by decide) (Nat.le_of_ble_eq_true rfl) ?_
  intro p e s m args below meth c C0 hr hlk hnm
  replace C0 : VC p { frames := 3, cells := 0, slots := 0, locals := 66 } s m args meth c D cy b0 5 0 0 RX4 cX4_tellBooking := C0
  refine v_run C0 tbX4 cokX4_tellBooking (pc' := 5) (lv' := [(0, .ref a0), (1, .ref a1), (2, .int x2)]) (st' := [.int (2 : Int32), .int (x2 + (1 : Int32)), .ref a1]) (h' := h) 5 rfl trivial ?_
  obtain ⟨r1, e1, hf⟩ := q_bd hf
  refine v_callV C0 cokX4_tellBooking rfl (rest := []) (ctX1_number a1 (x2 + (1 : Int32)) (2 : Int32) ta1 e1) calX1_number lkX4_379 inX1_number dnX1_number (ci := 1) ⟨rfl, by decide⟩ ta1 rfl rfl ⟨by decide, by decide⟩ (Nat.le_of_ble_eq_true rfl) (Nat.le_refl _) (Nat.le_refl _) ?_
  refine v_run C0 tbX4 cokX4_tellBooking (pc' := 14) (lv' := [(3, .int r1), (0, .ref a0), (1, .ref a1), (2, .int x2)]) (st' := [.int (1 : Int32), .int (x2 + (3 : Int32)), .ref a1]) (h' := h) 6 rfl trivial ?_
  obtain ⟨r2, e2, hf⟩ := q_bd hf
  refine v_callV C0 cokX4_tellBooking rfl (rest := []) (ctX1_number a1 (x2 + (3 : Int32)) (1 : Int32) ta1 e2) calX1_number lkX4_379 inX1_number dnX1_number (ci := 1) ⟨rfl, by decide⟩ ta1 rfl rfl ⟨by decide, by decide⟩ (Nat.le_of_ble_eq_true rfl) (Nat.le_refl _) (Nat.le_refl _) ?_
  refine v_run C0 tbX4 cokX4_tellBooking (pc' := 22) (lv' := [(4, .int r2), (3, .int r1), (0, .ref a0), (1, .ref a1), (2, .int x2)]) (st' := [.int (20 : Int32), .int r1]) (h' := h) 3 rfl trivial ?_
  refine v_icmp_gt C0 cokX4_tellBooking rfl 31 (by decide) hf (fun _ hf => ?_) (fun _ hf => ?_)
  · refine v_run C0 tbX4 cokX4_tellBooking (pc' := 32) (lv' := [(4, .int r2), (3, .int r1), (0, .ref a0), (1, .ref a1), (2, .int x2)]) (st' := [.int (-1 : Int32)]) (h' := h) 1 rfl trivial ?_
    obtain ⟨rfl, rfl⟩ := Prod.mk.inj (Option.some.inj hf)
    exact v_iret C0 cokX4_tellBooking hr hlk rfl
  · refine v_run C0 tbX4 cokX4_tellBooking (pc' := 28) (lv' := [(4, .int r2), (3, .int r1), (0, .ref a0), (1, .ref a1), (2, .int x2)]) (st' := [.int (3 : Int32), .int r2]) (h' := h) 2 rfl trivial ?_
    refine v_icmp_le C0 cokX4_tellBooking rfl 33 (by decide) hf (fun _ hf => ?_) (fun _ hf => ?_)
    · refine v_run C0 tbX4 cokX4_tellBooking (pc' := 42) (lv' := [(4, .int r2), (3, .int r1), (0, .ref a0), (1, .ref a1), (2, .int x2)]) (st' := [.int (3 : Int32), .int (x2 + (4 : Int32)), .ref a1, .int r2, .int r1, .ref a0]) (h' := h) 8 rfl trivial ?_
      obtain ⟨r3, e3, hf⟩ := q_bd hf
      refine v_callV C0 cokX4_tellBooking rfl (rest := [.int r2, .int r1, .ref a0]) (ctX1_number a1 (x2 + (4 : Int32)) (3 : Int32) ta1 e3) calX1_number lkX4_379 inX1_number dnX1_number (ci := 1) ⟨rfl, by decide⟩ ta1 rfl rfl ⟨by decide, by decide⟩ (Nat.le_of_ble_eq_true rfl) (Nat.le_refl _) (Nat.le_refl _) ?_
      obtain ⟨r4, h4, e4, hf⟩ := q_bd2 hf
      refine v_callV C0 cokX4_tellBooking rfl (rest := []) (ctX2_addBooking a0 r1 r2 r3 ta0 e4) calX2_addBooking lkX4_163 inX2_addBooking dnX2_addBooking (ci := 2) ⟨rfl, by decide⟩ ta0 rfl rfl ⟨by decide, by decide⟩ (Nat.le_of_ble_eq_true rfl) (Nat.le_refl _) (Nat.le_refl _) ?_
      obtain ⟨rfl, rfl⟩ := Prod.mk.inj (Option.some.inj hf)
      exact v_iret C0 cokX4_tellBooking hr hlk rfl
    · refine v_run C0 tbX4 cokX4_tellBooking (pc' := 32) (lv' := [(4, .int r2), (3, .int r1), (0, .ref a0), (1, .ref a1), (2, .int x2)]) (st' := [.int (-1 : Int32)]) (h' := h) 1 rfl trivial ?_
      obtain ⟨rfl, rfl⟩ := Prod.mk.inj (Option.some.inj hf)
      exact v_iret C0 cokX4_tellBooking hr hlk rfl
-- BackByNoonOnMonday.tellStatement(LBackByNoonOnMonday$Shop;LBackByNoonOnMonday$Shelf;I)I
noncomputable def fX4_tellStatement (σ : q_St) (h : q_Hp) (a0 : Nat) (a1 : Nat) (x2 : Int32) : Option (Int32 × q_St × q_Hp) := ((fX1_number σ h a1 (x2 + (1 : Int32)) (1 : Int32)).bind fun r1 => ((fX1_byteAt σ h a1 x2).bind fun r2 => (if r2 = (98 : Int32) then (q_b2 (fX4_tellBooking σ h a0 a1 x2) fun r3 h3 => some (r3, σ, h3)) else (if r2 = (99 : Int32) then (q_b2 (fX2_clean σ h a0 r1) fun r5 h5 => some (r5, σ, h5)) else (if r2 = (104 : Int32) then ((fX1_number σ h a1 (x2 + (2 : Int32)) (1 : Int32)).bind fun r7 => (q_b2 (fX2_hire σ h a0 r1 r7) fun r8 h8 => some (r8, σ, h8))) else (if r2 = (114 : Int32) then (q_b2 (fX2_giveBack σ h a0 r1) fun r10 h10 => some (r10, σ, h10)) else (if r2 = (115 : Int32) then (q_b3 (fX4_tellSuit σ h a0 a1 x2) fun r12 σ12 h12 => some (r12, σ12, h12)) else some ((-1 : Int32), σ, h))))))))
def cdX4_tellStatement : q_Cd := [(0, .aload_n 1), (1, .iload_n 2), (2, .iconst 1), (3, .iadd), (4, .iconst 1), (5, .invokevirtual 379), (8, .istore_n 3), (9, .aload_n 1), (10, .iload_n 2), (11, .invokevirtual 369), (64, .aload_n 0), (65, .aload_n 1), (66, .iload_n 2), (67, .invokestatic 381), (70, .ireturn), (71, .aload_n 0), (72, .aload_n 1), (73, .iload_n 2), (74, .invokestatic 384), (77, .ireturn), (78, .aload_n 0), (79, .iload_n 3), (80, .aload_n 1), (81, .iload_n 2), (82, .iconst 2), (83, .iadd), (84, .iconst 1), (85, .invokevirtual 379), (88, .invokevirtual 167), (91, .ireturn), (92, .aload_n 0), (93, .iload_n 3), (94, .invokevirtual 171), (97, .ireturn), (98, .aload_n 0), (99, .iload_n 3), (100, .invokevirtual 174), (103, .ireturn), (104, .iconst (-1)), (105, .ireturn)]
set_option maxRecDepth 100000 in
theorem cokX4_tellStatement : q_cok cX4_tellStatement cdX4_tellStatement := by unfold q_cok; decide +kernel
theorem dswX4_tellStatement_14 : decode cX4_tellStatement 14 = .ok (.lookupswitch 90 #[(98, 57), (99, 84), (104, 64), (114, 78), (115, 50)], 50) := by decide +kernel
set_option maxRecDepth 100000 in
set_option maxHeartbeats 4000000 in
theorem ctX4_tellStatement {l : Launch} {D : va_G} {cy : Nat → Nat} {b0 : Nat} {σ : q_St} {h : q_Hp} (a0 : Nat) (a1 : Nat) (x2 : Int32) {r : Int32} {σ' : q_St} {h' : q_Hp} (ta0 : q_tag σ a0 = 3) (ta1 : q_tag σ a1 = 2) (hf : fX4_tellStatement σ h a0 a1 x2 = some (r, σ', h')) : q_M l yX4_tellStatement cX4_tellStatement 4 (some .int) 4 90 1 7 D cy b0 σ h [.ref a0, .ref a1, .int x2] (some (.int r)) σ' h' := by
  unfold fX4_tellStatement at hf
  refine q_enter (by decide) (Nat.le_of_ble_eq_true rfl) ?_
  intro p e s m args below meth c C0 hr hlk hnm
  replace C0 : VC p { frames := 4, cells := 1, slots := 7, locals := 90 } s m args meth c D cy b0 4 1 7 RX4 cX4_tellStatement := C0
  refine v_run C0 tbX4 cokX4_tellStatement (pc' := 5) (lv' := [(0, .ref a0), (1, .ref a1), (2, .int x2)]) (st' := [.int (1 : Int32), .int (x2 + (1 : Int32)), .ref a1]) (h' := h) 5 rfl trivial ?_
  obtain ⟨r1, e1, hf⟩ := q_bd hf
  refine v_callV C0 cokX4_tellStatement rfl (rest := []) (ctX1_number a1 (x2 + (1 : Int32)) (1 : Int32) ta1 e1) calX1_number lkX4_379 inX1_number dnX1_number (ci := 1) ⟨rfl, by decide⟩ ta1 rfl rfl ⟨by decide, by decide⟩ (Nat.le_of_ble_eq_true rfl) (Nat.le_refl _) (Nat.le_refl _) ?_
  refine v_run C0 tbX4 cokX4_tellStatement (pc' := 11) (lv' := [(3, .int r1), (0, .ref a0), (1, .ref a1), (2, .int x2)]) (st' := [.int x2, .ref a1]) (h' := h) 3 rfl trivial ?_
  obtain ⟨r2, e2, hf⟩ := q_bd hf
  refine v_callV C0 cokX4_tellStatement rfl (rest := []) (ctX1_byteAt a1 x2 ta1 e2) calX1_byteAt lkX4_369 inX1_byteAt dnX1_byteAt (ci := 1) ⟨rfl, by decide⟩ ta1 rfl rfl ⟨by decide, by decide⟩ (Nat.le_of_ble_eq_true rfl) (Nat.le_refl _) (Nat.le_refl _) ?_
  rcases q_ite hf with ⟨d4, hf⟩ | ⟨d4, hf⟩
  · refine v_lkI C0 dswX4_tellStatement_14 d4 71 (by decide +kernel) (by decide +kernel) ?_
    refine v_run C0 tbX4 cokX4_tellStatement (pc' := 74) (lv' := [(3, .int r1), (0, .ref a0), (1, .ref a1), (2, .int x2)]) (st' := [.int x2, .ref a1, .ref a0]) (h' := h) 3 rfl trivial ?_
    obtain ⟨r3, h3, e3, hf⟩ := q_bd2 hf
    refine v_callS C0 cokX4_tellStatement rfl (rest := []) (ctX4_tellBooking a0 a1 x2 ta0 ta1 e3) calX4_tellBooking lkX4_384 inX4_tellBooking dnX4_tellBooking rfl rfl ⟨by decide, by decide⟩ (Nat.le_of_ble_eq_true rfl) (Nat.le_refl _) (Nat.le_refl _) ?_
    obtain ⟨hq1, hq2⟩ := Prod.mk.inj (Option.some.inj hf)
    obtain ⟨hq3, hq4⟩ := Prod.mk.inj hq2
    subst hq1
    subst hq3
    subst hq4
    exact v_iret C0 cokX4_tellStatement hr hlk rfl
  · rcases q_ite hf with ⟨d6, hf⟩ | ⟨d6, hf⟩
    · refine v_lkI C0 dswX4_tellStatement_14 d6 98 (by decide +kernel) (by decide +kernel) ?_
      refine v_run C0 tbX4 cokX4_tellStatement (pc' := 100) (lv' := [(3, .int r1), (0, .ref a0), (1, .ref a1), (2, .int x2)]) (st' := [.int r1, .ref a0]) (h' := h) 2 rfl trivial ?_
      obtain ⟨r5, h5, e5, hf⟩ := q_bd2 hf
      refine v_callV C0 cokX4_tellStatement rfl (rest := []) (ctX2_clean a0 r1 ta0 e5) calX2_clean lkX4_174 inX2_clean dnX2_clean (ci := 2) ⟨rfl, by decide⟩ ta0 rfl rfl ⟨by decide, by decide⟩ (Nat.le_of_ble_eq_true rfl) (Nat.le_refl _) (Nat.le_refl _) ?_
      obtain ⟨hq1, hq2⟩ := Prod.mk.inj (Option.some.inj hf)
      obtain ⟨hq3, hq4⟩ := Prod.mk.inj hq2
      subst hq1
      subst hq3
      subst hq4
      exact v_iret C0 cokX4_tellStatement hr hlk rfl
    · rcases q_ite hf with ⟨d9, hf⟩ | ⟨d9, hf⟩
      · refine v_lkI C0 dswX4_tellStatement_14 d9 78 (by decide +kernel) (by decide +kernel) ?_
        refine v_run C0 tbX4 cokX4_tellStatement (pc' := 85) (lv' := [(3, .int r1), (0, .ref a0), (1, .ref a1), (2, .int x2)]) (st' := [.int (1 : Int32), .int (x2 + (2 : Int32)), .ref a1, .int r1, .ref a0]) (h' := h) 7 rfl trivial ?_
        obtain ⟨r7, e7, hf⟩ := q_bd hf
        refine v_callV C0 cokX4_tellStatement rfl (rest := [.int r1, .ref a0]) (ctX1_number a1 (x2 + (2 : Int32)) (1 : Int32) ta1 e7) calX1_number lkX4_379 inX1_number dnX1_number (ci := 1) ⟨rfl, by decide⟩ ta1 rfl rfl ⟨by decide, by decide⟩ (Nat.le_of_ble_eq_true rfl) (Nat.le_refl _) (Nat.le_refl _) ?_
        obtain ⟨r8, h8, e8, hf⟩ := q_bd2 hf
        refine v_callV C0 cokX4_tellStatement rfl (rest := []) (ctX2_hire a0 r1 r7 ta0 e8) calX2_hire lkX4_167 inX2_hire dnX2_hire (ci := 2) ⟨rfl, by decide⟩ ta0 rfl rfl ⟨by decide, by decide⟩ (Nat.le_of_ble_eq_true rfl) (Nat.le_refl _) (Nat.le_refl _) ?_
        obtain ⟨hq1, hq2⟩ := Prod.mk.inj (Option.some.inj hf)
        obtain ⟨hq3, hq4⟩ := Prod.mk.inj hq2
        subst hq1
        subst hq3
        subst hq4
        exact v_iret C0 cokX4_tellStatement hr hlk rfl
      · rcases q_ite hf with ⟨d11, hf⟩ | ⟨d11, hf⟩
        · refine v_lkI C0 dswX4_tellStatement_14 d11 92 (by decide +kernel) (by decide +kernel) ?_
          refine v_run C0 tbX4 cokX4_tellStatement (pc' := 94) (lv' := [(3, .int r1), (0, .ref a0), (1, .ref a1), (2, .int x2)]) (st' := [.int r1, .ref a0]) (h' := h) 2 rfl trivial ?_
          obtain ⟨r10, h10, e10, hf⟩ := q_bd2 hf
          refine v_callV C0 cokX4_tellStatement rfl (rest := []) (ctX2_giveBack a0 r1 ta0 e10) calX2_giveBack lkX4_171 inX2_giveBack dnX2_giveBack (ci := 2) ⟨rfl, by decide⟩ ta0 rfl rfl ⟨by decide, by decide⟩ (Nat.le_of_ble_eq_true rfl) (Nat.le_refl _) (Nat.le_refl _) ?_
          obtain ⟨hq1, hq2⟩ := Prod.mk.inj (Option.some.inj hf)
          obtain ⟨hq3, hq4⟩ := Prod.mk.inj hq2
          subst hq1
          subst hq3
          subst hq4
          exact v_iret C0 cokX4_tellStatement hr hlk rfl
        · rcases q_ite hf with ⟨d13, hf⟩ | ⟨d13, hf⟩
          · refine v_lkI C0 dswX4_tellStatement_14 d13 64 (by decide +kernel) (by decide +kernel) ?_
            refine v_run C0 tbX4 cokX4_tellStatement (pc' := 67) (lv' := [(3, .int r1), (0, .ref a0), (1, .ref a1), (2, .int x2)]) (st' := [.int x2, .ref a1, .ref a0]) (h' := h) 3 rfl trivial ?_
            obtain ⟨r12, σ12, h12, e12, hf⟩ := q_bd3 hf
            refine v_callS C0 cokX4_tellStatement rfl (rest := []) (ctX4_tellSuit a0 a1 x2 ta0 ta1 e12) calX4_tellSuit lkX4_381 inX4_tellSuit dnX4_tellSuit rfl rfl ⟨by decide, by decide⟩ (Nat.le_of_ble_eq_true rfl) (kc' := 0) (ks' := 0) (by omega) (by omega) ?_
            obtain ⟨hq1, hq2⟩ := Prod.mk.inj (Option.some.inj hf)
            obtain ⟨hq3, hq4⟩ := Prod.mk.inj hq2
            subst hq1
            subst hq3
            subst hq4
            exact v_iret C0 cokX4_tellStatement hr hlk rfl
          · refine v_lkO C0 dswX4_tellStatement_14 104 [98, 99, 104, 114, 115] rfl (by decide +kernel) (by decide +kernel) (fun k hk hx => ?_) ?_
            · simp only [List.mem_cons, List.not_mem_nil, or_false] at hk
              rcases hk with rfl | rfl | rfl | rfl | rfl
              · exact d4 (Int32.toInt_inj.mp hx)
              · exact d6 (Int32.toInt_inj.mp hx)
              · exact d9 (Int32.toInt_inj.mp hx)
              · exact d11 (Int32.toInt_inj.mp hx)
              · exact d13 (Int32.toInt_inj.mp hx)
            · refine v_run C0 tbX4 cokX4_tellStatement (pc' := 105) (lv' := [(3, .int r1), (0, .ref a0), (1, .ref a1), (2, .int x2)]) (st' := [.int (-1 : Int32)]) (h' := h) 1 rfl trivial ?_
              obtain ⟨hq1, hq2⟩ := Prod.mk.inj (Option.some.inj hf)
              obtain ⟨hq3, hq4⟩ := Prod.mk.inj hq2
              subst hq1
              subst hq3
              subst hq4
              exact v_iret C0 cokX4_tellStatement hr hlk rfl
-- BackByNoonOnMonday.suit(II)I
noncomputable def fX4_suit (σ : q_St) (h : q_Hp) (a0 : Nat) (x1 : Int32) (x2 : Int32) : Option Int32 := q_gu ((q_tag σ (q_ref σ a0 0) = 3) ∧ (q_tag σ (q_ref σ (q_ref σ a0 0) 1) = 7) ∧ (q_tag σ (q_ref σ (q_ref σ a0 0) 2) = 7) ∧ (q_tag σ (q_ref σ (q_ref σ a0 0) 3) = 7)) (((fX2_isSuit σ h (q_ref σ a0 0) x1).bind fun r1 => (if r1 = 0 then some (-1 : Int32) else ((fX2_kindOf σ h (q_ref σ a0 0) x1).bind fun r2 => (if x2 = (0 : Int32) then q_gu ((q_tag σ r2 = 4)) (some (q_int h r2 0)) else (if x2 = (1 : Int32) then q_gu ((q_tag σ r2 = 4)) (some (q_int h r2 1)) else (if x2 = (2 : Int32) then ((fX4_at σ h (q_ref σ (q_ref σ a0 0) 1) x1).bind fun r7 => some r7) else (if x2 = (3 : Int32) then ((fX4_at σ h (q_ref σ (q_ref σ a0 0) 2) x1).bind fun r9 => some r9) else (if x2 = (4 : Int32) then ((fX4_at σ h (q_ref σ (q_ref σ a0 0) 3) x1).bind fun r11 => some r11) else (if x2 = (5 : Int32) then q_gu ((q_tag σ r2 = 4)) (some (q_int h r2 2)) else (if x2 = (6 : Int32) then q_gu ((q_tag σ r2 = 4)) (some (q_int h r2 3)) else (if x2 = (7 : Int32) then q_gu ((q_tag σ r2 = 4)) (some (q_int h r2 4)) else (if x2 = (8 : Int32) then q_gu ((q_tag σ r2 = 4)) (some (q_int h r2 5)) else some (-1 : Int32))))))))))))))
def cdX4_suit : q_Cd := [(0, .aload_n 0), (1, .getfield 12), (4, .iload_n 1), (5, .invokevirtual 89), (8, .ifCond .ne 5), (11, .iconst (-1)), (12, .ireturn), (13, .aload_n 0), (14, .getfield 12), (17, .iload_n 1), (18, .invokevirtual 92), (21, .astore_n 3), (22, .iload_n 2), (72, .aload_n 3), (73, .getfield 96), (76, .ireturn), (77, .aload_n 3), (78, .getfield 99), (81, .ireturn), (82, .aload_n 0), (83, .getfield 12), (86, .getfield 102), (89, .iload_n 1), (90, .invokestatic 105), (93, .ireturn), (94, .aload_n 0), (95, .getfield 12), (98, .getfield 109), (101, .iload_n 1), (102, .invokestatic 105), (105, .ireturn), (106, .aload_n 0), (107, .getfield 12), (110, .getfield 112), (113, .iload_n 1), (114, .invokestatic 105), (117, .ireturn), (118, .aload_n 3), (119, .getfield 115), (122, .ireturn), (123, .aload_n 3), (124, .getfield 118), (127, .ireturn), (128, .aload_n 3), (129, .getfield 121), (132, .ireturn), (133, .aload_n 3), (134, .getfield 124), (137, .ireturn), (138, .iconst (-1)), (139, .ireturn)]
set_option maxRecDepth 100000 in
theorem cokX4_suit : q_cok cX4_suit cdX4_suit := by unfold q_cok; decide +kernel
theorem dswX4_suit_23 : decode cX4_suit 23 = .ok (.tableswitch 115 0 8 #[49, 54, 59, 71, 83, 95, 100, 105, 110], 49) := by decide +kernel
set_option maxRecDepth 100000 in
set_option maxHeartbeats 4000000 in
theorem ctX4_suit {l : Launch} {D : va_G} {cy : Nat → Nat} {b0 : Nat} {σ : q_St} {h : q_Hp} (a0 : Nat) (x1 : Int32) (x2 : Int32) {r : Int32} (ta0 : q_tag σ a0 = 5) (hf : fX4_suit σ h a0 x1 x2 = some r) : q_M l yX4_suit cX4_suit 4 (some .int) 2 43 0 0 D cy b0 σ h [.ref a0, .int x1, .int x2] (some (.int r)) σ h := by
  unfold fX4_suit at hf
  obtain ⟨⟨k0, k1, k2, k3⟩, hf⟩ := q_gu_o hf
  refine q_enter (by decide) (Nat.le_of_ble_eq_true rfl) ?_
  intro p e s m args below meth c C0 hr hlk hnm
  replace C0 : VC p { frames := 2, cells := 0, slots := 0, locals := 43 } s m args meth c D cy b0 4 0 0 RX4 cX4_suit := C0
  refine v_run C0 tbX4 cokX4_suit (pc' := 5) (lv' := [(0, .ref a0), (1, .int x1), (2, .int x2)]) (st' := [.int x1, .ref (q_ref σ a0 0)]) (h' := h) 3 rfl ⟨⟨ta0, q_tn k0⟩, trivial⟩ ?_
  obtain ⟨r1, e1, hf⟩ := q_bd hf
  refine v_callV C0 cokX4_suit rfl (rest := []) (ctX2_isSuit (q_ref σ a0 0) x1 k0 e1) calX2_isSuit lkX4_89 inX2_isSuit dnX2_isSuit (ci := 2) ⟨rfl, by decide⟩ k0 rfl rfl ⟨by decide, by decide⟩ (Nat.le_of_ble_eq_true rfl) (Nat.le_refl _) (Nat.le_refl _) ?_
  refine v_if_ne C0 cokX4_suit rfl 13 (by decide) hf (fun _ hf => ?_) (fun _ hf => ?_)
  · refine v_run C0 tbX4 cokX4_suit (pc' := 12) (lv' := [(0, .ref a0), (1, .int x1), (2, .int x2)]) (st' := [.int (-1 : Int32)]) (h' := h) 1 rfl trivial ?_
    obtain rfl := Option.some.inj hf
    exact v_iret C0 cokX4_suit hr hlk rfl
  · refine v_run C0 tbX4 cokX4_suit (pc' := 18) (lv' := [(0, .ref a0), (1, .int x1), (2, .int x2)]) (st' := [.int x1, .ref (q_ref σ a0 0)]) (h' := h) 3 rfl ⟨⟨ta0, q_tn k0⟩, trivial⟩ ?_
    obtain ⟨r2, e2, hf⟩ := q_bd hf
    refine v_callV C0 cokX4_suit rfl (rest := []) (ctX2_kindOf (q_ref σ a0 0) x1 k0 e2) calX2_kindOf lkX4_92 inX2_kindOf dnX2_kindOf (ci := 2) ⟨rfl, by decide⟩ k0 rfl rfl ⟨by decide, by decide⟩ (Nat.le_of_ble_eq_true rfl) (Nat.le_refl _) (Nat.le_refl _) ?_
    refine v_run C0 tbX4 cokX4_suit (pc' := 23) (lv' := [(3, .ref r2), (0, .ref a0), (1, .int x1), (2, .int x2)]) (st' := [.int x2]) (h' := h) 2 rfl trivial ?_
    rcases q_ite hf with ⟨d4, hf⟩ | ⟨d4, hf⟩
    · refine v_tabI C0 dswX4_suit_23 d4 72 (by decide +kernel) (by decide +kernel) ?_
      obtain ⟨g3, hf⟩ := q_gu_o hf
      refine v_run C0 tbX4 cokX4_suit (pc' := 76) (lv' := [(3, .ref r2), (0, .ref a0), (1, .int x1), (2, .int x2)]) (st' := [.int (q_int h r2 0)]) (h' := h) 2 rfl ⟨g3, trivial⟩ ?_
      obtain rfl := Option.some.inj hf
      exact v_iret C0 cokX4_suit hr hlk rfl
    · rcases q_ite hf with ⟨d6, hf⟩ | ⟨d6, hf⟩
      · refine v_tabI C0 dswX4_suit_23 d6 77 (by decide +kernel) (by decide +kernel) ?_
        obtain ⟨g5, hf⟩ := q_gu_o hf
        refine v_run C0 tbX4 cokX4_suit (pc' := 81) (lv' := [(3, .ref r2), (0, .ref a0), (1, .int x1), (2, .int x2)]) (st' := [.int (q_int h r2 1)]) (h' := h) 2 rfl ⟨g5, trivial⟩ ?_
        obtain rfl := Option.some.inj hf
        exact v_iret C0 cokX4_suit hr hlk rfl
      · rcases q_ite hf with ⟨d8, hf⟩ | ⟨d8, hf⟩
        · refine v_tabI C0 dswX4_suit_23 d8 82 (by decide +kernel) (by decide +kernel) ?_
          refine v_run C0 tbX4 cokX4_suit (pc' := 90) (lv' := [(3, .ref r2), (0, .ref a0), (1, .int x1), (2, .int x2)]) (st' := [.int x1, .ref (q_ref σ (q_ref σ a0 0) 1)]) (h' := h) 4 rfl ⟨⟨ta0, q_tn k0⟩, ⟨k0, q_tn k1⟩, trivial⟩ ?_
          obtain ⟨r7, e7, hf⟩ := q_bd hf
          refine v_callS C0 cokX4_suit rfl (rest := []) (ctX4_at (q_ref σ (q_ref σ a0 0) 1) x1 k1 e7) calX4_at lkX4_105 inX4_at dnX4_at rfl rfl ⟨by decide, by decide⟩ (Nat.le_of_ble_eq_true rfl) (Nat.le_refl _) (Nat.le_refl _) ?_
          obtain rfl := Option.some.inj hf
          exact v_iret C0 cokX4_suit hr hlk rfl
        · rcases q_ite hf with ⟨d10, hf⟩ | ⟨d10, hf⟩
          · refine v_tabI C0 dswX4_suit_23 d10 94 (by decide +kernel) (by decide +kernel) ?_
            refine v_run C0 tbX4 cokX4_suit (pc' := 102) (lv' := [(3, .ref r2), (0, .ref a0), (1, .int x1), (2, .int x2)]) (st' := [.int x1, .ref (q_ref σ (q_ref σ a0 0) 2)]) (h' := h) 4 rfl ⟨⟨ta0, q_tn k0⟩, ⟨k0, q_tn k2⟩, trivial⟩ ?_
            obtain ⟨r9, e9, hf⟩ := q_bd hf
            refine v_callS C0 cokX4_suit rfl (rest := []) (ctX4_at (q_ref σ (q_ref σ a0 0) 2) x1 k2 e9) calX4_at lkX4_105 inX4_at dnX4_at rfl rfl ⟨by decide, by decide⟩ (Nat.le_of_ble_eq_true rfl) (Nat.le_refl _) (Nat.le_refl _) ?_
            obtain rfl := Option.some.inj hf
            exact v_iret C0 cokX4_suit hr hlk rfl
          · rcases q_ite hf with ⟨d12, hf⟩ | ⟨d12, hf⟩
            · refine v_tabI C0 dswX4_suit_23 d12 106 (by decide +kernel) (by decide +kernel) ?_
              refine v_run C0 tbX4 cokX4_suit (pc' := 114) (lv' := [(3, .ref r2), (0, .ref a0), (1, .int x1), (2, .int x2)]) (st' := [.int x1, .ref (q_ref σ (q_ref σ a0 0) 3)]) (h' := h) 4 rfl ⟨⟨ta0, q_tn k0⟩, ⟨k0, q_tn k3⟩, trivial⟩ ?_
              obtain ⟨r11, e11, hf⟩ := q_bd hf
              refine v_callS C0 cokX4_suit rfl (rest := []) (ctX4_at (q_ref σ (q_ref σ a0 0) 3) x1 k3 e11) calX4_at lkX4_105 inX4_at dnX4_at rfl rfl ⟨by decide, by decide⟩ (Nat.le_of_ble_eq_true rfl) (Nat.le_refl _) (Nat.le_refl _) ?_
              obtain rfl := Option.some.inj hf
              exact v_iret C0 cokX4_suit hr hlk rfl
            · rcases q_ite hf with ⟨d14, hf⟩ | ⟨d14, hf⟩
              · refine v_tabI C0 dswX4_suit_23 d14 118 (by decide +kernel) (by decide +kernel) ?_
                obtain ⟨g13, hf⟩ := q_gu_o hf
                refine v_run C0 tbX4 cokX4_suit (pc' := 122) (lv' := [(3, .ref r2), (0, .ref a0), (1, .int x1), (2, .int x2)]) (st' := [.int (q_int h r2 2)]) (h' := h) 2 rfl ⟨g13, trivial⟩ ?_
                obtain rfl := Option.some.inj hf
                exact v_iret C0 cokX4_suit hr hlk rfl
              · rcases q_ite hf with ⟨d16, hf⟩ | ⟨d16, hf⟩
                · refine v_tabI C0 dswX4_suit_23 d16 123 (by decide +kernel) (by decide +kernel) ?_
                  obtain ⟨g15, hf⟩ := q_gu_o hf
                  refine v_run C0 tbX4 cokX4_suit (pc' := 127) (lv' := [(3, .ref r2), (0, .ref a0), (1, .int x1), (2, .int x2)]) (st' := [.int (q_int h r2 3)]) (h' := h) 2 rfl ⟨g15, trivial⟩ ?_
                  obtain rfl := Option.some.inj hf
                  exact v_iret C0 cokX4_suit hr hlk rfl
                · rcases q_ite hf with ⟨d18, hf⟩ | ⟨d18, hf⟩
                  · refine v_tabI C0 dswX4_suit_23 d18 128 (by decide +kernel) (by decide +kernel) ?_
                    obtain ⟨g17, hf⟩ := q_gu_o hf
                    refine v_run C0 tbX4 cokX4_suit (pc' := 132) (lv' := [(3, .ref r2), (0, .ref a0), (1, .int x1), (2, .int x2)]) (st' := [.int (q_int h r2 4)]) (h' := h) 2 rfl ⟨g17, trivial⟩ ?_
                    obtain rfl := Option.some.inj hf
                    exact v_iret C0 cokX4_suit hr hlk rfl
                  · rcases q_ite hf with ⟨d20, hf⟩ | ⟨d20, hf⟩
                    · refine v_tabI C0 dswX4_suit_23 d20 133 (by decide +kernel) (by decide +kernel) ?_
                      obtain ⟨g19, hf⟩ := q_gu_o hf
                      refine v_run C0 tbX4 cokX4_suit (pc' := 137) (lv' := [(3, .ref r2), (0, .ref a0), (1, .int x1), (2, .int x2)]) (st' := [.int (q_int h r2 5)]) (h' := h) 2 rfl ⟨g19, trivial⟩ ?_
                      obtain rfl := Option.some.inj hf
                      exact v_iret C0 cokX4_suit hr hlk rfl
                    · refine v_tabO C0 dswX4_suit_23 138 (by decide +kernel) (fun k h1 h2 hk => ?_) ?_
                      · have hk2 : k = 0 ∨ k = 1 ∨ k = 2 ∨ k = 3 ∨ k = 4 ∨ k = 5 ∨ k = 6 ∨ k = 7 ∨ k = 8 := by omega
                        rcases hk2 with rfl | rfl | rfl | rfl | rfl | rfl | rfl | rfl | rfl
                        · exact d4 (Int32.toInt_inj.mp hk)
                        · exact d6 (Int32.toInt_inj.mp hk)
                        · exact d8 (Int32.toInt_inj.mp hk)
                        · exact d10 (Int32.toInt_inj.mp hk)
                        · exact d12 (Int32.toInt_inj.mp hk)
                        · exact d14 (Int32.toInt_inj.mp hk)
                        · exact d16 (Int32.toInt_inj.mp hk)
                        · exact d18 (Int32.toInt_inj.mp hk)
                        · exact d20 (Int32.toInt_inj.mp hk)
                      · refine v_run C0 tbX4 cokX4_suit (pc' := 139) (lv' := [(3, .ref r2), (0, .ref a0), (1, .int x1), (2, .int x2)]) (st' := [.int (-1 : Int32)]) (h' := h) 1 rfl trivial ?_
                        obtain rfl := Option.some.inj hf
                        exact v_iret C0 cokX4_suit hr hlk rfl
-- BackByNoonOnMonday.booking(II)I
noncomputable def fX4_booking (σ : q_St) (h : q_Hp) (a0 : Nat) (x1 : Int32) (x2 : Int32) : Option Int32 := q_gu ((q_tag σ (q_ref σ a0 0) = 3) ∧ (q_tag σ (q_ref σ (q_ref σ a0 0) 4) = 7) ∧ (q_tag σ (q_ref σ (q_ref σ a0 0) 5) = 7) ∧ (q_tag σ (q_ref σ (q_ref σ a0 0) 6) = 7) ∧ (q_tag σ (q_ref σ (q_ref σ a0 0) 7) = 7) ∧ (q_tag σ (q_ref σ (q_ref σ a0 0) 8) = 7) ∧ (q_tag σ (q_ref σ (q_ref σ a0 0) 9) = 7)) (((fX2_isBooking σ h (q_ref σ a0 0) x1).bind fun r1 => (if r1 = 0 then some (-1 : Int32) else (if x2 = (0 : Int32) then ((fX4_at σ h (q_ref σ (q_ref σ a0 0) 4) x1).bind fun r2 => some r2) else (if x2 = (1 : Int32) then ((fX4_at σ h (q_ref σ (q_ref σ a0 0) 5) x1).bind fun r4 => some r4) else (if x2 = (2 : Int32) then ((fX4_at σ h (q_ref σ (q_ref σ a0 0) 6) x1).bind fun r6 => some r6) else (if x2 = (3 : Int32) then ((fX4_at σ h (q_ref σ (q_ref σ a0 0) 7) x1).bind fun r8 => some r8) else (if x2 = (4 : Int32) then ((fX4_at σ h (q_ref σ (q_ref σ a0 0) 8) x1).bind fun r10 => some r10) else (if x2 = (5 : Int32) then ((fX4_at σ h (q_ref σ (q_ref σ a0 0) 9) x1).bind fun r12 => some r12) else some (-1 : Int32))))))))))
def cdX4_booking : q_Cd := [(0, .aload_n 0), (1, .getfield 12), (4, .iload_n 1), (5, .invokevirtual 127), (8, .ifCond .ne 5), (11, .iconst (-1)), (12, .ireturn), (13, .iload_n 2), (52, .aload_n 0), (53, .getfield 12), (56, .getfield 130), (59, .iload_n 1), (60, .invokestatic 105), (63, .ireturn), (64, .aload_n 0), (65, .getfield 12), (68, .getfield 133), (71, .iload_n 1), (72, .invokestatic 105), (75, .ireturn), (76, .aload_n 0), (77, .getfield 12), (80, .getfield 136), (83, .iload_n 1), (84, .invokestatic 105), (87, .ireturn), (88, .aload_n 0), (89, .getfield 12), (92, .getfield 139), (95, .iload_n 1), (96, .invokestatic 105), (99, .ireturn), (100, .aload_n 0), (101, .getfield 12), (104, .getfield 142), (107, .iload_n 1), (108, .invokestatic 105), (111, .ireturn), (112, .aload_n 0), (113, .getfield 12), (116, .getfield 145), (119, .iload_n 1), (120, .invokestatic 105), (123, .ireturn), (124, .iconst (-1)), (125, .ireturn)]
set_option maxRecDepth 100000 in
theorem cokX4_booking : q_cok cX4_booking cdX4_booking := by unfold q_cok; decide +kernel
theorem dswX4_booking_14 : decode cX4_booking 14 = .ok (.tableswitch 110 0 5 #[38, 50, 62, 74, 86, 98], 38) := by decide +kernel
set_option maxRecDepth 100000 in
set_option maxHeartbeats 4000000 in
theorem ctX4_booking {l : Launch} {D : va_G} {cy : Nat → Nat} {b0 : Nat} {σ : q_St} {h : q_Hp} (a0 : Nat) (x1 : Int32) (x2 : Int32) {r : Int32} (ta0 : q_tag σ a0 = 5) (hf : fX4_booking σ h a0 x1 x2 = some r) : q_M l yX4_booking cX4_booking 3 (some .int) 2 43 0 0 D cy b0 σ h [.ref a0, .int x1, .int x2] (some (.int r)) σ h := by
  unfold fX4_booking at hf
  obtain ⟨⟨k0, k1, k2, k3, k4, k5, k6⟩, hf⟩ := q_gu_o hf
  refine q_enter (by decide) (Nat.le_of_ble_eq_true rfl) ?_
  intro p e s m args below meth c C0 hr hlk hnm
  replace C0 : VC p { frames := 2, cells := 0, slots := 0, locals := 43 } s m args meth c D cy b0 3 0 0 RX4 cX4_booking := C0
  refine v_run C0 tbX4 cokX4_booking (pc' := 5) (lv' := [(0, .ref a0), (1, .int x1), (2, .int x2)]) (st' := [.int x1, .ref (q_ref σ a0 0)]) (h' := h) 3 rfl ⟨⟨ta0, q_tn k0⟩, trivial⟩ ?_
  obtain ⟨r1, e1, hf⟩ := q_bd hf
  refine v_callV C0 cokX4_booking rfl (rest := []) (ctX2_isBooking (q_ref σ a0 0) x1 k0 e1) calX2_isBooking lkX4_127 inX2_isBooking dnX2_isBooking (ci := 2) ⟨rfl, by decide⟩ k0 rfl rfl ⟨by decide, by decide⟩ (Nat.le_of_ble_eq_true rfl) (Nat.le_refl _) (Nat.le_refl _) ?_
  refine v_if_ne C0 cokX4_booking rfl 13 (by decide) hf (fun _ hf => ?_) (fun _ hf => ?_)
  · refine v_run C0 tbX4 cokX4_booking (pc' := 12) (lv' := [(0, .ref a0), (1, .int x1), (2, .int x2)]) (st' := [.int (-1 : Int32)]) (h' := h) 1 rfl trivial ?_
    obtain rfl := Option.some.inj hf
    exact v_iret C0 cokX4_booking hr hlk rfl
  · refine v_run C0 tbX4 cokX4_booking (pc' := 14) (lv' := [(0, .ref a0), (1, .int x1), (2, .int x2)]) (st' := [.int x2]) (h' := h) 1 rfl trivial ?_
    rcases q_ite hf with ⟨d3, hf⟩ | ⟨d3, hf⟩
    · refine v_tabI C0 dswX4_booking_14 d3 52 (by decide +kernel) (by decide +kernel) ?_
      refine v_run C0 tbX4 cokX4_booking (pc' := 60) (lv' := [(0, .ref a0), (1, .int x1), (2, .int x2)]) (st' := [.int x1, .ref (q_ref σ (q_ref σ a0 0) 4)]) (h' := h) 4 rfl ⟨⟨ta0, q_tn k0⟩, ⟨k0, q_tn k1⟩, trivial⟩ ?_
      obtain ⟨r2, e2, hf⟩ := q_bd hf
      refine v_callS C0 cokX4_booking rfl (rest := []) (ctX4_at (q_ref σ (q_ref σ a0 0) 4) x1 k1 e2) calX4_at lkX4_105 inX4_at dnX4_at rfl rfl ⟨by decide, by decide⟩ (Nat.le_of_ble_eq_true rfl) (Nat.le_refl _) (Nat.le_refl _) ?_
      obtain rfl := Option.some.inj hf
      exact v_iret C0 cokX4_booking hr hlk rfl
    · rcases q_ite hf with ⟨d5, hf⟩ | ⟨d5, hf⟩
      · refine v_tabI C0 dswX4_booking_14 d5 64 (by decide +kernel) (by decide +kernel) ?_
        refine v_run C0 tbX4 cokX4_booking (pc' := 72) (lv' := [(0, .ref a0), (1, .int x1), (2, .int x2)]) (st' := [.int x1, .ref (q_ref σ (q_ref σ a0 0) 5)]) (h' := h) 4 rfl ⟨⟨ta0, q_tn k0⟩, ⟨k0, q_tn k2⟩, trivial⟩ ?_
        obtain ⟨r4, e4, hf⟩ := q_bd hf
        refine v_callS C0 cokX4_booking rfl (rest := []) (ctX4_at (q_ref σ (q_ref σ a0 0) 5) x1 k2 e4) calX4_at lkX4_105 inX4_at dnX4_at rfl rfl ⟨by decide, by decide⟩ (Nat.le_of_ble_eq_true rfl) (Nat.le_refl _) (Nat.le_refl _) ?_
        obtain rfl := Option.some.inj hf
        exact v_iret C0 cokX4_booking hr hlk rfl
      · rcases q_ite hf with ⟨d7, hf⟩ | ⟨d7, hf⟩
        · refine v_tabI C0 dswX4_booking_14 d7 76 (by decide +kernel) (by decide +kernel) ?_
          refine v_run C0 tbX4 cokX4_booking (pc' := 84) (lv' := [(0, .ref a0), (1, .int x1), (2, .int x2)]) (st' := [.int x1, .ref (q_ref σ (q_ref σ a0 0) 6)]) (h' := h) 4 rfl ⟨⟨ta0, q_tn k0⟩, ⟨k0, q_tn k3⟩, trivial⟩ ?_
          obtain ⟨r6, e6, hf⟩ := q_bd hf
          refine v_callS C0 cokX4_booking rfl (rest := []) (ctX4_at (q_ref σ (q_ref σ a0 0) 6) x1 k3 e6) calX4_at lkX4_105 inX4_at dnX4_at rfl rfl ⟨by decide, by decide⟩ (Nat.le_of_ble_eq_true rfl) (Nat.le_refl _) (Nat.le_refl _) ?_
          obtain rfl := Option.some.inj hf
          exact v_iret C0 cokX4_booking hr hlk rfl
        · rcases q_ite hf with ⟨d9, hf⟩ | ⟨d9, hf⟩
          · refine v_tabI C0 dswX4_booking_14 d9 88 (by decide +kernel) (by decide +kernel) ?_
            refine v_run C0 tbX4 cokX4_booking (pc' := 96) (lv' := [(0, .ref a0), (1, .int x1), (2, .int x2)]) (st' := [.int x1, .ref (q_ref σ (q_ref σ a0 0) 7)]) (h' := h) 4 rfl ⟨⟨ta0, q_tn k0⟩, ⟨k0, q_tn k4⟩, trivial⟩ ?_
            obtain ⟨r8, e8, hf⟩ := q_bd hf
            refine v_callS C0 cokX4_booking rfl (rest := []) (ctX4_at (q_ref σ (q_ref σ a0 0) 7) x1 k4 e8) calX4_at lkX4_105 inX4_at dnX4_at rfl rfl ⟨by decide, by decide⟩ (Nat.le_of_ble_eq_true rfl) (Nat.le_refl _) (Nat.le_refl _) ?_
            obtain rfl := Option.some.inj hf
            exact v_iret C0 cokX4_booking hr hlk rfl
          · rcases q_ite hf with ⟨d11, hf⟩ | ⟨d11, hf⟩
            · refine v_tabI C0 dswX4_booking_14 d11 100 (by decide +kernel) (by decide +kernel) ?_
              refine v_run C0 tbX4 cokX4_booking (pc' := 108) (lv' := [(0, .ref a0), (1, .int x1), (2, .int x2)]) (st' := [.int x1, .ref (q_ref σ (q_ref σ a0 0) 8)]) (h' := h) 4 rfl ⟨⟨ta0, q_tn k0⟩, ⟨k0, q_tn k5⟩, trivial⟩ ?_
              obtain ⟨r10, e10, hf⟩ := q_bd hf
              refine v_callS C0 cokX4_booking rfl (rest := []) (ctX4_at (q_ref σ (q_ref σ a0 0) 8) x1 k5 e10) calX4_at lkX4_105 inX4_at dnX4_at rfl rfl ⟨by decide, by decide⟩ (Nat.le_of_ble_eq_true rfl) (Nat.le_refl _) (Nat.le_refl _) ?_
              obtain rfl := Option.some.inj hf
              exact v_iret C0 cokX4_booking hr hlk rfl
            · rcases q_ite hf with ⟨d13, hf⟩ | ⟨d13, hf⟩
              · refine v_tabI C0 dswX4_booking_14 d13 112 (by decide +kernel) (by decide +kernel) ?_
                refine v_run C0 tbX4 cokX4_booking (pc' := 120) (lv' := [(0, .ref a0), (1, .int x1), (2, .int x2)]) (st' := [.int x1, .ref (q_ref σ (q_ref σ a0 0) 9)]) (h' := h) 4 rfl ⟨⟨ta0, q_tn k0⟩, ⟨k0, q_tn k6⟩, trivial⟩ ?_
                obtain ⟨r12, e12, hf⟩ := q_bd hf
                refine v_callS C0 cokX4_booking rfl (rest := []) (ctX4_at (q_ref σ (q_ref σ a0 0) 9) x1 k6 e12) calX4_at lkX4_105 inX4_at dnX4_at rfl rfl ⟨by decide, by decide⟩ (Nat.le_of_ble_eq_true rfl) (Nat.le_refl _) (Nat.le_refl _) ?_
                obtain rfl := Option.some.inj hf
                exact v_iret C0 cokX4_booking hr hlk rfl
              · refine v_tabO C0 dswX4_booking_14 124 (by decide +kernel) (fun k h1 h2 hk => ?_) ?_
                · have hk2 : k = 0 ∨ k = 1 ∨ k = 2 ∨ k = 3 ∨ k = 4 ∨ k = 5 := by omega
                  rcases hk2 with rfl | rfl | rfl | rfl | rfl | rfl
                  · exact d3 (Int32.toInt_inj.mp hk)
                  · exact d5 (Int32.toInt_inj.mp hk)
                  · exact d7 (Int32.toInt_inj.mp hk)
                  · exact d9 (Int32.toInt_inj.mp hk)
                  · exact d11 (Int32.toInt_inj.mp hk)
                  · exact d13 (Int32.toInt_inj.mp hk)
                · refine v_run C0 tbX4 cokX4_booking (pc' := 125) (lv' := [(0, .ref a0), (1, .int x1), (2, .int x2)]) (st' := [.int (-1 : Int32)]) (h' := h) 1 rfl trivial ?_
                  obtain rfl := Option.some.inj hf
                  exact v_iret C0 cokX4_booking hr hlk rfl
-- BackByNoonOnMonday.buys(II)I
noncomputable def fX4_buys (σ : q_St) (h : q_Hp) (a0 : Nat) (x1 : Int32) (x2 : Int32) : Option (Int32 × q_St × q_Hp) := ((fX4_isShelf σ h x1).bind fun r1 => (if r1 = 0 then some ((-1 : Int32), σ, h) else ((fX4_isIn σ h x2 (0 : Int32) (20 : Int32)).bind fun r2 => (if r2 = 0 then some ((-1 : Int32), σ, h) else ((fX4_shelfAt σ h a0 x1).bind fun r3 => q_gu ((q_tag σ r3 = 2)) (((fX1_refusal σ h r3 (1 : Int32)).bind fun r5 => (if r5 = 0 then q_gu ((q_tag σ (q_ref σ a0 0) = 3) ∧ (q_tag σ (q_ref σ r3 2) = 4)) ((q_b3 (fX2_addSuit σ h (q_ref σ a0 0) (q_ref σ r3 2) x2 (0 : Int32)) fun r8 σ8 h8 => some (r8, σ8, h8))) else some (r5, σ, h)))))))))
def cdX4_buys : q_Cd := [(0, .iload_n 1), (1, .invokestatic 67), (4, .ifCond .eq 13), (7, .iload_n 2), (8, .iconst 0), (9, .bipush 20), (11, .invokestatic 148), (14, .ifCond .ne 5), (17, .iconst (-1)), (18, .ireturn), (19, .aload_n 0), (20, .iload_n 1), (21, .invokevirtual 71), (24, .astore_n 3), (25, .aload_n 3), (26, .iconst 1), (27, .invokevirtual 152), (30, .istore 4), (32, .iload 4), (34, .ifCond .eq 8), (37, .iload 4), (39, .goto 16), (42, .aload_n 0), (43, .getfield 12), (46, .aload_n 3), (47, .getfield 156), (50, .iload_n 2), (51, .iconst 0), (52, .invokevirtual 159), (55, .ireturn)]
set_option maxRecDepth 100000 in
theorem cokX4_buys : q_cok cX4_buys cdX4_buys := by unfold q_cok; decide +kernel
set_option maxRecDepth 100000 in
set_option maxHeartbeats 4000000 in
theorem ctX4_buys {l : Launch} {D : va_G} {cy : Nat → Nat} {b0 : Nat} {σ : q_St} {h : q_Hp} (a0 : Nat) (x1 : Int32) (x2 : Int32) {r : Int32} {σ' : q_St} {h' : q_Hp} (ta0 : q_tag σ a0 = 5) (hf : fX4_buys σ h a0 x1 x2 = some (r, σ', h')) : q_M l yX4_buys cX4_buys 5 (some .int) 2 46 0 0 D cy b0 σ h [.ref a0, .int x1, .int x2] (some (.int r)) σ' h' := by
  unfold fX4_buys at hf
  refine q_enter (by decide) (Nat.le_of_ble_eq_true rfl) ?_
  intro p e s m args below meth c C0 hr hlk hnm
  replace C0 : VC p { frames := 2, cells := 0, slots := 0, locals := 46 } s m args meth c D cy b0 5 0 0 RX4 cX4_buys := C0
  refine v_run C0 tbX4 cokX4_buys (pc' := 1) (lv' := [(0, .ref a0), (1, .int x1), (2, .int x2)]) (st' := [.int x1]) (h' := h) 1 rfl trivial ?_
  obtain ⟨r1, e1, hf⟩ := q_bd hf
  refine v_callS C0 cokX4_buys rfl (rest := []) (ctX4_isShelf x1 e1) calX4_isShelf lkX4_67 inX4_isShelf dnX4_isShelf rfl rfl ⟨by decide, by decide⟩ (Nat.le_of_ble_eq_true rfl) (Nat.le_refl _) (Nat.le_refl _) ?_
  refine v_if_eq C0 cokX4_buys rfl 17 (by decide) hf (fun _ hf => ?_) (fun _ hf => ?_)
  · refine v_run C0 tbX4 cokX4_buys (pc' := 18) (lv' := [(0, .ref a0), (1, .int x1), (2, .int x2)]) (st' := [.int (-1 : Int32)]) (h' := h) 1 rfl trivial ?_
    obtain ⟨hq1, hq2⟩ := Prod.mk.inj (Option.some.inj hf)
    obtain ⟨hq3, hq4⟩ := Prod.mk.inj hq2
    subst hq1
    subst hq3
    subst hq4
    exact v_iret C0 cokX4_buys hr hlk rfl
  · refine v_run C0 tbX4 cokX4_buys (pc' := 11) (lv' := [(0, .ref a0), (1, .int x1), (2, .int x2)]) (st' := [.int (20 : Int32), .int (0 : Int32), .int x2]) (h' := h) 3 rfl trivial ?_
    obtain ⟨r2, e2, hf⟩ := q_bd hf
    refine v_callS C0 cokX4_buys rfl (rest := []) (ctX4_isIn x2 (0 : Int32) (20 : Int32) e2) calX4_isIn lkX4_148 inX4_isIn dnX4_isIn rfl rfl ⟨by decide, by decide⟩ (Nat.le_of_ble_eq_true rfl) (Nat.le_refl _) (Nat.le_refl _) ?_
    refine v_if_ne C0 cokX4_buys rfl 19 (by decide) hf (fun _ hf => ?_) (fun _ hf => ?_)
    · refine v_run C0 tbX4 cokX4_buys (pc' := 18) (lv' := [(0, .ref a0), (1, .int x1), (2, .int x2)]) (st' := [.int (-1 : Int32)]) (h' := h) 1 rfl trivial ?_
      obtain ⟨hq1, hq2⟩ := Prod.mk.inj (Option.some.inj hf)
      obtain ⟨hq3, hq4⟩ := Prod.mk.inj hq2
      subst hq1
      subst hq3
      subst hq4
      exact v_iret C0 cokX4_buys hr hlk rfl
    · refine v_run C0 tbX4 cokX4_buys (pc' := 21) (lv' := [(0, .ref a0), (1, .int x1), (2, .int x2)]) (st' := [.int x1, .ref a0]) (h' := h) 2 rfl trivial ?_
      obtain ⟨r3, e3, hf⟩ := q_bd hf
      refine v_callV C0 cokX4_buys rfl (rest := []) (ctX4_shelfAt a0 x1 ta0 e3) calX4_shelfAt lkX4_71 inX4_shelfAt dnX4_shelfAt (ci := 4) ⟨rfl, by decide⟩ ta0 rfl rfl ⟨by decide, by decide⟩ (Nat.le_of_ble_eq_true rfl) (Nat.le_refl _) (Nat.le_refl _) ?_
      refine v_run C0 tbX4 cokX4_buys (pc' := 27) (lv' := [(3, .ref r3), (0, .ref a0), (1, .int x1), (2, .int x2)]) (st' := [.int (1 : Int32), .ref r3]) (h' := h) 3 rfl trivial ?_
      obtain ⟨g4, hf⟩ := q_gu_o hf
      obtain ⟨r5, e5, hf⟩ := q_bd hf
      refine v_callV C0 cokX4_buys rfl (rest := []) (ctX1_refusal r3 (1 : Int32) g4 e5) calX1_refusal lkX4_152 inX1_refusal dnX1_refusal (ci := 1) ⟨rfl, by decide⟩ g4 rfl rfl ⟨by decide, by decide⟩ (Nat.le_of_ble_eq_true rfl) (Nat.le_refl _) (Nat.le_refl _) ?_
      refine v_run C0 tbX4 cokX4_buys (pc' := 34) (lv' := [(4, .int r5), (3, .ref r3), (0, .ref a0), (1, .int x1), (2, .int x2)]) (st' := [.int r5]) (h' := h) 2 rfl trivial ?_
      refine v_if_eq C0 cokX4_buys rfl 42 (by decide) hf (fun _ hf => ?_) (fun _ hf => ?_)
      · obtain ⟨⟨g6, g7⟩, hf⟩ := q_gu_o hf
        refine v_run C0 tbX4 cokX4_buys (pc' := 52) (lv' := [(4, .int r5), (3, .ref r3), (0, .ref a0), (1, .int x1), (2, .int x2)]) (st' := [.int (0 : Int32), .int x2, .ref (q_ref σ r3 2), .ref (q_ref σ a0 0)]) (h' := h) 6 rfl ⟨⟨ta0, q_tn g6⟩, ⟨g4, q_tn g7⟩, trivial⟩ ?_
        obtain ⟨r8, σ8, h8, e8, hf⟩ := q_bd3 hf
        refine v_callV C0 cokX4_buys rfl (rest := []) (ctX2_addSuit (q_ref σ a0 0) (q_ref σ r3 2) x2 (0 : Int32) g6 g7 e8) calX2_addSuit lkX4_159 inX2_addSuit dnX2_addSuit (ci := 2) ⟨rfl, by decide⟩ g6 rfl rfl ⟨by decide, by decide⟩ (Nat.le_of_ble_eq_true rfl) (Nat.le_refl _) (Nat.le_refl _) ?_
        obtain ⟨hq1, hq2⟩ := Prod.mk.inj (Option.some.inj hf)
        obtain ⟨hq3, hq4⟩ := Prod.mk.inj hq2
        subst hq1
        subst hq3
        subst hq4
        exact v_iret C0 cokX4_buys hr hlk rfl
      · refine v_run C0 tbX4 cokX4_buys (pc' := 55) (lv' := [(4, .int r5), (3, .ref r3), (0, .ref a0), (1, .int x1), (2, .int x2)]) (st' := [.int r5]) (h' := h) 2 rfl trivial ?_
        obtain ⟨hq1, hq2⟩ := Prod.mk.inj (Option.some.inj hf)
        obtain ⟨hq3, hq4⟩ := Prod.mk.inj hq2
        subst hq1
        subst hq3
        subst hq4
        exact v_iret C0 cokX4_buys hr hlk rfl
-- BackByNoonOnMonday.books(III)I
noncomputable def fX4_books (σ : q_St) (h : q_Hp) (a0 : Nat) (x1 : Int32) (x2 : Int32) (x3 : Int32) : Option (Int32 × q_Hp) := q_gu ((q_tag σ (q_ref σ a0 0) = 3)) (((fX4_isIn σ h x1 (0 : Int32) (20 : Int32)).bind fun r1 => (if r1 = 0 then some ((-1 : Int32), h) else ((fX4_isIn σ h x2 (0 : Int32) (3 : Int32)).bind fun r2 => (if r2 = 0 then some ((-1 : Int32), h) else ((fX4_isIn σ h x3 (0 : Int32) (999 : Int32)).bind fun r3 => (if r3 = 0 then some ((-1 : Int32), h) else (q_b2 (fX2_addBooking σ h (q_ref σ a0 0) x1 x2 x3) fun r4 h4 => some (r4, h4)))))))))
def cdX4_books : q_Cd := [(0, .iload_n 1), (1, .iconst 0), (2, .bipush 20), (4, .invokestatic 148), (7, .ifCond .eq 23), (10, .iload_n 2), (11, .iconst 0), (12, .iconst 3), (13, .invokestatic 148), (16, .ifCond .eq 14), (19, .iload_n 3), (20, .iconst 0), (21, .sipush 999), (24, .invokestatic 148), (27, .ifCond .ne 5), (30, .iconst (-1)), (31, .ireturn), (32, .aload_n 0), (33, .getfield 12), (36, .iload_n 1), (37, .iload_n 2), (38, .iload_n 3), (39, .invokevirtual 163), (42, .ireturn)]
set_option maxRecDepth 100000 in
theorem cokX4_books : q_cok cX4_books cdX4_books := by unfold q_cok; decide +kernel
set_option maxRecDepth 100000 in
set_option maxHeartbeats 4000000 in
theorem ctX4_books {l : Launch} {D : va_G} {cy : Nat → Nat} {b0 : Nat} {σ : q_St} {h : q_Hp} (a0 : Nat) (x1 : Int32) (x2 : Int32) (x3 : Int32) {r : Int32} {h' : q_Hp} (ta0 : q_tag σ a0 = 5) (hf : fX4_books σ h a0 x1 x2 x3 = some (r, h')) : q_M l yX4_books cX4_books 4 (some .int) 2 46 0 0 D cy b0 σ h [.ref a0, .int x1, .int x2, .int x3] (some (.int r)) σ h' := by
  unfold fX4_books at hf
  obtain ⟨k0, hf⟩ := q_gu_o hf
  refine q_enter (by decide) (Nat.le_of_ble_eq_true rfl) ?_
  intro p e s m args below meth c C0 hr hlk hnm
  replace C0 : VC p { frames := 2, cells := 0, slots := 0, locals := 46 } s m args meth c D cy b0 4 0 0 RX4 cX4_books := C0
  refine v_run C0 tbX4 cokX4_books (pc' := 4) (lv' := [(0, .ref a0), (1, .int x1), (2, .int x2), (3, .int x3)]) (st' := [.int (20 : Int32), .int (0 : Int32), .int x1]) (h' := h) 3 rfl trivial ?_
  obtain ⟨r1, e1, hf⟩ := q_bd hf
  refine v_callS C0 cokX4_books rfl (rest := []) (ctX4_isIn x1 (0 : Int32) (20 : Int32) e1) calX4_isIn lkX4_148 inX4_isIn dnX4_isIn rfl rfl ⟨by decide, by decide⟩ (Nat.le_of_ble_eq_true rfl) (Nat.le_refl _) (Nat.le_refl _) ?_
  refine v_if_eq C0 cokX4_books rfl 30 (by decide) hf (fun _ hf => ?_) (fun _ hf => ?_)
  · refine v_run C0 tbX4 cokX4_books (pc' := 31) (lv' := [(0, .ref a0), (1, .int x1), (2, .int x2), (3, .int x3)]) (st' := [.int (-1 : Int32)]) (h' := h) 1 rfl trivial ?_
    obtain ⟨rfl, rfl⟩ := Prod.mk.inj (Option.some.inj hf)
    exact v_iret C0 cokX4_books hr hlk rfl
  · refine v_run C0 tbX4 cokX4_books (pc' := 13) (lv' := [(0, .ref a0), (1, .int x1), (2, .int x2), (3, .int x3)]) (st' := [.int (3 : Int32), .int (0 : Int32), .int x2]) (h' := h) 3 rfl trivial ?_
    obtain ⟨r2, e2, hf⟩ := q_bd hf
    refine v_callS C0 cokX4_books rfl (rest := []) (ctX4_isIn x2 (0 : Int32) (3 : Int32) e2) calX4_isIn lkX4_148 inX4_isIn dnX4_isIn rfl rfl ⟨by decide, by decide⟩ (Nat.le_of_ble_eq_true rfl) (Nat.le_refl _) (Nat.le_refl _) ?_
    refine v_if_eq C0 cokX4_books rfl 30 (by decide) hf (fun _ hf => ?_) (fun _ hf => ?_)
    · refine v_run C0 tbX4 cokX4_books (pc' := 31) (lv' := [(0, .ref a0), (1, .int x1), (2, .int x2), (3, .int x3)]) (st' := [.int (-1 : Int32)]) (h' := h) 1 rfl trivial ?_
      obtain ⟨rfl, rfl⟩ := Prod.mk.inj (Option.some.inj hf)
      exact v_iret C0 cokX4_books hr hlk rfl
    · refine v_run C0 tbX4 cokX4_books (pc' := 24) (lv' := [(0, .ref a0), (1, .int x1), (2, .int x2), (3, .int x3)]) (st' := [.int (999 : Int32), .int (0 : Int32), .int x3]) (h' := h) 3 rfl trivial ?_
      obtain ⟨r3, e3, hf⟩ := q_bd hf
      refine v_callS C0 cokX4_books rfl (rest := []) (ctX4_isIn x3 (0 : Int32) (999 : Int32) e3) calX4_isIn lkX4_148 inX4_isIn dnX4_isIn rfl rfl ⟨by decide, by decide⟩ (Nat.le_of_ble_eq_true rfl) (Nat.le_refl _) (Nat.le_refl _) ?_
      refine v_if_ne C0 cokX4_books rfl 32 (by decide) hf (fun _ hf => ?_) (fun _ hf => ?_)
      · refine v_run C0 tbX4 cokX4_books (pc' := 31) (lv' := [(0, .ref a0), (1, .int x1), (2, .int x2), (3, .int x3)]) (st' := [.int (-1 : Int32)]) (h' := h) 1 rfl trivial ?_
        obtain ⟨rfl, rfl⟩ := Prod.mk.inj (Option.some.inj hf)
        exact v_iret C0 cokX4_books hr hlk rfl
      · refine v_run C0 tbX4 cokX4_books (pc' := 39) (lv' := [(0, .ref a0), (1, .int x1), (2, .int x2), (3, .int x3)]) (st' := [.int x3, .int x2, .int x1, .ref (q_ref σ a0 0)]) (h' := h) 5 rfl ⟨⟨ta0, q_tn k0⟩, trivial⟩ ?_
        obtain ⟨r4, h4, e4, hf⟩ := q_bd2 hf
        refine v_callV C0 cokX4_books rfl (rest := []) (ctX2_addBooking (q_ref σ a0 0) x1 x2 x3 k0 e4) calX2_addBooking lkX4_163 inX2_addBooking dnX2_addBooking (ci := 2) ⟨rfl, by decide⟩ k0 rfl rfl ⟨by decide, by decide⟩ (Nat.le_of_ble_eq_true rfl) (Nat.le_refl _) (Nat.le_refl _) ?_
        obtain ⟨rfl, rfl⟩ := Prod.mk.inj (Option.some.inj hf)
        exact v_iret C0 cokX4_books hr hlk rfl
-- BackByNoonOnMonday.hires(II)I
noncomputable def fX4_hires (σ : q_St) (h : q_Hp) (a0 : Nat) (x1 : Int32) (x2 : Int32) : Option (Int32 × q_Hp) := q_gu ((q_tag σ (q_ref σ a0 0) = 3)) ((q_b2 (fX2_hire σ h (q_ref σ a0 0) x1 x2) fun r1 h1 => some (r1, h1)))
def cdX4_hires : q_Cd := [(0, .aload_n 0), (1, .getfield 12), (4, .iload_n 1), (5, .iload_n 2), (6, .invokevirtual 167), (9, .ireturn)]
set_option maxRecDepth 100000 in
theorem cokX4_hires : q_cok cX4_hires cdX4_hires := by unfold q_cok; decide +kernel
set_option maxRecDepth 100000 in
set_option maxHeartbeats 4000000 in
theorem ctX4_hires {l : Launch} {D : va_G} {cy : Nat → Nat} {b0 : Nat} {σ : q_St} {h : q_Hp} (a0 : Nat) (x1 : Int32) (x2 : Int32) {r : Int32} {h' : q_Hp} (ta0 : q_tag σ a0 = 5) (hf : fX4_hires σ h a0 x1 x2 = some (r, h')) : q_M l yX4_hires cX4_hires 3 (some .int) 4 90 0 0 D cy b0 σ h [.ref a0, .int x1, .int x2] (some (.int r)) σ h' := by
  unfold fX4_hires at hf
  obtain ⟨k0, hf⟩ := q_gu_o hf
  refine q_enter (by decide) (Nat.le_of_ble_eq_true rfl) ?_
  intro p e s m args below meth c C0 hr hlk hnm
  replace C0 : VC p { frames := 4, cells := 0, slots := 0, locals := 90 } s m args meth c D cy b0 3 0 0 RX4 cX4_hires := C0
  refine v_run C0 tbX4 cokX4_hires (pc' := 6) (lv' := [(0, .ref a0), (1, .int x1), (2, .int x2)]) (st' := [.int x2, .int x1, .ref (q_ref σ a0 0)]) (h' := h) 4 rfl ⟨⟨ta0, q_tn k0⟩, trivial⟩ ?_
  obtain ⟨r1, h1, e1, hf⟩ := q_bd2 hf
  refine v_callV C0 cokX4_hires rfl (rest := []) (ctX2_hire (q_ref σ a0 0) x1 x2 k0 e1) calX2_hire lkX4_167 inX2_hire dnX2_hire (ci := 2) ⟨rfl, by decide⟩ k0 rfl rfl ⟨by decide, by decide⟩ (Nat.le_of_ble_eq_true rfl) (Nat.le_refl _) (Nat.le_refl _) ?_
  obtain ⟨rfl, rfl⟩ := Prod.mk.inj (Option.some.inj hf)
  exact v_iret C0 cokX4_hires hr hlk rfl
-- BackByNoonOnMonday.returns(I)I
noncomputable def fX4_returns (σ : q_St) (h : q_Hp) (a0 : Nat) (x1 : Int32) : Option (Int32 × q_Hp) := q_gu ((q_tag σ (q_ref σ a0 0) = 3)) ((q_b2 (fX2_giveBack σ h (q_ref σ a0 0) x1) fun r1 h1 => some (r1, h1)))
def cdX4_returns : q_Cd := [(0, .aload_n 0), (1, .getfield 12), (4, .iload_n 1), (5, .invokevirtual 171), (8, .ireturn)]
set_option maxRecDepth 100000 in
theorem cokX4_returns : q_cok cX4_returns cdX4_returns := by unfold q_cok; decide +kernel
set_option maxRecDepth 100000 in
set_option maxHeartbeats 4000000 in
theorem ctX4_returns {l : Launch} {D : va_G} {cy : Nat → Nat} {b0 : Nat} {σ : q_St} {h : q_Hp} (a0 : Nat) (x1 : Int32) {r : Int32} {h' : q_Hp} (ta0 : q_tag σ a0 = 5) (hf : fX4_returns σ h a0 x1 = some (r, h')) : q_M l yX4_returns cX4_returns 2 (some .int) 3 65 0 0 D cy b0 σ h [.ref a0, .int x1] (some (.int r)) σ h' := by
  unfold fX4_returns at hf
  obtain ⟨k0, hf⟩ := q_gu_o hf
  refine q_enter (by decide) (Nat.le_of_ble_eq_true rfl) ?_
  intro p e s m args below meth c C0 hr hlk hnm
  replace C0 : VC p { frames := 3, cells := 0, slots := 0, locals := 65 } s m args meth c D cy b0 2 0 0 RX4 cX4_returns := C0
  refine v_run C0 tbX4 cokX4_returns (pc' := 5) (lv' := [(0, .ref a0), (1, .int x1)]) (st' := [.int x1, .ref (q_ref σ a0 0)]) (h' := h) 3 rfl ⟨⟨ta0, q_tn k0⟩, trivial⟩ ?_
  obtain ⟨r1, h1, e1, hf⟩ := q_bd2 hf
  refine v_callV C0 cokX4_returns rfl (rest := []) (ctX2_giveBack (q_ref σ a0 0) x1 k0 e1) calX2_giveBack lkX4_171 inX2_giveBack dnX2_giveBack (ci := 2) ⟨rfl, by decide⟩ k0 rfl rfl ⟨by decide, by decide⟩ (Nat.le_of_ble_eq_true rfl) (Nat.le_refl _) (Nat.le_refl _) ?_
  obtain ⟨rfl, rfl⟩ := Prod.mk.inj (Option.some.inj hf)
  exact v_iret C0 cokX4_returns hr hlk rfl
-- BackByNoonOnMonday.cleans(I)I
noncomputable def fX4_cleans (σ : q_St) (h : q_Hp) (a0 : Nat) (x1 : Int32) : Option (Int32 × q_Hp) := q_gu ((q_tag σ (q_ref σ a0 0) = 3)) ((q_b2 (fX2_clean σ h (q_ref σ a0 0) x1) fun r1 h1 => some (r1, h1)))
def cdX4_cleans : q_Cd := [(0, .aload_n 0), (1, .getfield 12), (4, .iload_n 1), (5, .invokevirtual 174), (8, .ireturn)]
set_option maxRecDepth 100000 in
theorem cokX4_cleans : q_cok cX4_cleans cdX4_cleans := by unfold q_cok; decide +kernel
set_option maxRecDepth 100000 in
set_option maxHeartbeats 4000000 in
theorem ctX4_cleans {l : Launch} {D : va_G} {cy : Nat → Nat} {b0 : Nat} {σ : q_St} {h : q_Hp} (a0 : Nat) (x1 : Int32) {r : Int32} {h' : q_Hp} (ta0 : q_tag σ a0 = 5) (hf : fX4_cleans σ h a0 x1 = some (r, h')) : q_M l yX4_cleans cX4_cleans 2 (some .int) 3 65 0 0 D cy b0 σ h [.ref a0, .int x1] (some (.int r)) σ h' := by
  unfold fX4_cleans at hf
  obtain ⟨k0, hf⟩ := q_gu_o hf
  refine q_enter (by decide) (Nat.le_of_ble_eq_true rfl) ?_
  intro p e s m args below meth c C0 hr hlk hnm
  replace C0 : VC p { frames := 3, cells := 0, slots := 0, locals := 65 } s m args meth c D cy b0 2 0 0 RX4 cX4_cleans := C0
  refine v_run C0 tbX4 cokX4_cleans (pc' := 5) (lv' := [(0, .ref a0), (1, .int x1)]) (st' := [.int x1, .ref (q_ref σ a0 0)]) (h' := h) 3 rfl ⟨⟨ta0, q_tn k0⟩, trivial⟩ ?_
  obtain ⟨r1, h1, e1, hf⟩ := q_bd2 hf
  refine v_callV C0 cokX4_cleans rfl (rest := []) (ctX2_clean (q_ref σ a0 0) x1 k0 e1) calX2_clean lkX4_174 inX2_clean dnX2_clean (ci := 2) ⟨rfl, by decide⟩ k0 rfl rfl ⟨by decide, by decide⟩ (Nat.le_of_ble_eq_true rfl) (Nat.le_refl _) (Nat.le_refl _) ?_
  obtain ⟨rfl, rfl⟩ := Prod.mk.inj (Option.some.inj hf)
  exact v_iret C0 cokX4_cleans hr hlk rfl
-- BackByNoonOnMonday.fits(II)I
noncomputable def fX4_fits (σ : q_St) (h : q_Hp) (a0 : Nat) (x1 : Int32) (x2 : Int32) : Option Int32 := q_gu ((q_tag σ (q_ref σ a0 0) = 3)) (((fX2_isSuit σ h (q_ref σ a0 0) x1).bind fun r1 => (if r1 = 0 then some (-1 : Int32) else ((fX2_isBooking σ h (q_ref σ a0 0) x2).bind fun r2 => (if r2 = 0 then some (-1 : Int32) else ((fX2_isRightFor σ h (q_ref σ a0 0) x1 x2).bind fun r3 => (if r3 = 0 then some (0 : Int32) else some (1 : Int32))))))))
def cdX4_fits : q_Cd := [(0, .aload_n 0), (1, .getfield 12), (4, .iload_n 1), (5, .invokevirtual 89), (8, .ifCond .eq 14), (11, .aload_n 0), (12, .getfield 12), (15, .iload_n 2), (16, .invokevirtual 127), (19, .ifCond .ne 5), (22, .iconst (-1)), (23, .ireturn), (24, .aload_n 0), (25, .getfield 12), (28, .iload_n 1), (29, .iload_n 2), (30, .invokevirtual 177), (33, .ifCond .eq 7), (36, .iconst 1), (37, .goto 4), (40, .iconst 0), (41, .ireturn)]
set_option maxRecDepth 100000 in
theorem cokX4_fits : q_cok cX4_fits cdX4_fits := by unfold q_cok; decide +kernel
set_option maxRecDepth 100000 in
set_option maxHeartbeats 4000000 in
theorem ctX4_fits {l : Launch} {D : va_G} {cy : Nat → Nat} {b0 : Nat} {σ : q_St} {h : q_Hp} (a0 : Nat) (x1 : Int32) (x2 : Int32) {r : Int32} (ta0 : q_tag σ a0 = 5) (hf : fX4_fits σ h a0 x1 x2 = some r) : q_M l yX4_fits cX4_fits 3 (some .int) 2 45 0 0 D cy b0 σ h [.ref a0, .int x1, .int x2] (some (.int r)) σ h := by
  unfold fX4_fits at hf
  obtain ⟨k0, hf⟩ := q_gu_o hf
  refine q_enter (by decide) (Nat.le_of_ble_eq_true rfl) ?_
  intro p e s m args below meth c C0 hr hlk hnm
  replace C0 : VC p { frames := 2, cells := 0, slots := 0, locals := 45 } s m args meth c D cy b0 3 0 0 RX4 cX4_fits := C0
  refine v_run C0 tbX4 cokX4_fits (pc' := 5) (lv' := [(0, .ref a0), (1, .int x1), (2, .int x2)]) (st' := [.int x1, .ref (q_ref σ a0 0)]) (h' := h) 3 rfl ⟨⟨ta0, q_tn k0⟩, trivial⟩ ?_
  obtain ⟨r1, e1, hf⟩ := q_bd hf
  refine v_callV C0 cokX4_fits rfl (rest := []) (ctX2_isSuit (q_ref σ a0 0) x1 k0 e1) calX2_isSuit lkX4_89 inX2_isSuit dnX2_isSuit (ci := 2) ⟨rfl, by decide⟩ k0 rfl rfl ⟨by decide, by decide⟩ (Nat.le_of_ble_eq_true rfl) (Nat.le_refl _) (Nat.le_refl _) ?_
  refine v_if_eq C0 cokX4_fits rfl 22 (by decide) hf (fun _ hf => ?_) (fun _ hf => ?_)
  · refine v_run C0 tbX4 cokX4_fits (pc' := 23) (lv' := [(0, .ref a0), (1, .int x1), (2, .int x2)]) (st' := [.int (-1 : Int32)]) (h' := h) 1 rfl trivial ?_
    obtain rfl := Option.some.inj hf
    exact v_iret C0 cokX4_fits hr hlk rfl
  · refine v_run C0 tbX4 cokX4_fits (pc' := 16) (lv' := [(0, .ref a0), (1, .int x1), (2, .int x2)]) (st' := [.int x2, .ref (q_ref σ a0 0)]) (h' := h) 3 rfl ⟨⟨ta0, q_tn k0⟩, trivial⟩ ?_
    obtain ⟨r2, e2, hf⟩ := q_bd hf
    refine v_callV C0 cokX4_fits rfl (rest := []) (ctX2_isBooking (q_ref σ a0 0) x2 k0 e2) calX2_isBooking lkX4_127 inX2_isBooking dnX2_isBooking (ci := 2) ⟨rfl, by decide⟩ k0 rfl rfl ⟨by decide, by decide⟩ (Nat.le_of_ble_eq_true rfl) (Nat.le_refl _) (Nat.le_refl _) ?_
    refine v_if_ne C0 cokX4_fits rfl 24 (by decide) hf (fun _ hf => ?_) (fun _ hf => ?_)
    · refine v_run C0 tbX4 cokX4_fits (pc' := 23) (lv' := [(0, .ref a0), (1, .int x1), (2, .int x2)]) (st' := [.int (-1 : Int32)]) (h' := h) 1 rfl trivial ?_
      obtain rfl := Option.some.inj hf
      exact v_iret C0 cokX4_fits hr hlk rfl
    · refine v_run C0 tbX4 cokX4_fits (pc' := 30) (lv' := [(0, .ref a0), (1, .int x1), (2, .int x2)]) (st' := [.int x2, .int x1, .ref (q_ref σ a0 0)]) (h' := h) 4 rfl ⟨⟨ta0, q_tn k0⟩, trivial⟩ ?_
      obtain ⟨r3, e3, hf⟩ := q_bd hf
      refine v_callV C0 cokX4_fits rfl (rest := []) (ctX2_isRightFor (q_ref σ a0 0) x1 x2 k0 e3) calX2_isRightFor lkX4_177 inX2_isRightFor dnX2_isRightFor (ci := 2) ⟨rfl, by decide⟩ k0 rfl rfl ⟨by decide, by decide⟩ (Nat.le_of_ble_eq_true rfl) (Nat.le_refl _) (Nat.le_refl _) ?_
      refine v_if_eq C0 cokX4_fits rfl 40 (by decide) hf (fun _ hf => ?_) (fun _ hf => ?_)
      · refine v_run C0 tbX4 cokX4_fits (pc' := 41) (lv' := [(0, .ref a0), (1, .int x1), (2, .int x2)]) (st' := [.int (0 : Int32)]) (h' := h) 1 rfl trivial ?_
        obtain rfl := Option.some.inj hf
        exact v_iret C0 cokX4_fits hr hlk rfl
      · refine v_run C0 tbX4 cokX4_fits (pc' := 41) (lv' := [(0, .ref a0), (1, .int x1), (2, .int x2)]) (st' := [.int (1 : Int32)]) (h' := h) 2 rfl trivial ?_
        obtain rfl := Option.some.inj hf
        exact v_iret C0 cokX4_fits hr hlk rfl
-- BackByNoonOnMonday.served(I)I
noncomputable def fX4_served (σ : q_St) (h : q_Hp) (a0 : Nat) (x1 : Int32) : Option (Int32 × q_Hp) := q_gu ((q_tag σ (q_ref σ a0 0) = 3) ∧ (q_tag σ (q_ref σ a0 8) = 1) ∧ (q_tag σ (q_ref σ (q_ref σ a0 8) 8) = 7)) ((if x1 < (-1 : Int32) then some ((-1 : Int32), h) else (if x1 < (q_int h (q_ref σ a0 0) 12) then ((fX0_load σ h (q_ref σ a0 8) (q_ref σ a0 0)).bind fun h1 => (if x1 = (-1 : Int32) then (q_b2 (fX0_most σ h1 (q_ref σ a0 8) (q_int h1 (q_ref σ a0 8) 9) (q_int h1 (q_ref σ a0 8) 10)) fun r4 h4 => some (r4, h4)) else (q_b2 (fX0_chooseFirst σ h1 (q_ref σ a0 8)) fun r2 h2 => ((fX4_at σ h2 (q_ref σ (q_ref σ a0 8) 8) x1).bind fun r3 => some (r3, h2))))) else some ((-1 : Int32), h))))
def cdX4_served : q_Cd := [(0, .iload_n 1), (1, .iconst (-1)), (2, .if_icmp .lt 14), (5, .iload_n 1), (6, .aload_n 0), (7, .getfield 12), (10, .getfield 181), (13, .if_icmp .lt 5), (16, .iconst (-1)), (17, .ireturn), (18, .aload_n 0), (19, .getfield 53), (22, .aload_n 0), (23, .getfield 12), (26, .invokevirtual 184), (29, .iload_n 1), (30, .iconst (-1)), (31, .if_icmp .ne 25), (34, .aload_n 0), (35, .getfield 53), (38, .aload_n 0), (39, .getfield 53), (42, .getfield 188), (45, .aload_n 0), (46, .getfield 53), (49, .getfield 191), (52, .invokevirtual 194), (55, .ireturn), (56, .aload_n 0), (57, .getfield 53), (60, .invokevirtual 197), (63, .pop), (64, .aload_n 0), (65, .getfield 53), (68, .getfield 201), (71, .iload_n 1), (72, .invokestatic 105), (75, .ireturn)]
set_option maxRecDepth 100000 in
theorem cokX4_served : q_cok cX4_served cdX4_served := by unfold q_cok; decide +kernel
set_option maxRecDepth 100000 in
set_option maxHeartbeats 4000000 in
theorem ctX4_served {l : Launch} {D : va_G} {cy : Nat → Nat} {b0 : Nat} {σ : q_St} {h : q_Hp} (a0 : Nat) (x1 : Int32) {r : Int32} {h' : q_Hp} (ta0 : q_tag σ a0 = 5) (hf : fX4_served σ h a0 x1 = some (r, h')) : q_M l yX4_served cX4_served 2 (some .int) 6 149 0 0 D cy b0 σ h [.ref a0, .int x1] (some (.int r)) σ h' := by
  unfold fX4_served at hf
  obtain ⟨⟨k0, k1, k2⟩, hf⟩ := q_gu_o hf
  refine q_enter (by decide) (Nat.le_of_ble_eq_true rfl) ?_
  intro p e s m args below meth c C0 hr hlk hnm
  replace C0 : VC p { frames := 6, cells := 0, slots := 0, locals := 149 } s m args meth c D cy b0 2 0 0 RX4 cX4_served := C0
  refine v_run C0 tbX4 cokX4_served (pc' := 2) (lv' := [(0, .ref a0), (1, .int x1)]) (st' := [.int (-1 : Int32), .int x1]) (h' := h) 2 rfl trivial ?_
  refine v_icmp_lt C0 cokX4_served rfl 16 (by decide) hf (fun _ hf => ?_) (fun _ hf => ?_)
  · refine v_run C0 tbX4 cokX4_served (pc' := 17) (lv' := [(0, .ref a0), (1, .int x1)]) (st' := [.int (-1 : Int32)]) (h' := h) 1 rfl trivial ?_
    obtain ⟨rfl, rfl⟩ := Prod.mk.inj (Option.some.inj hf)
    exact v_iret C0 cokX4_served hr hlk rfl
  · refine v_run C0 tbX4 cokX4_served (pc' := 13) (lv' := [(0, .ref a0), (1, .int x1)]) (st' := [.int (q_int h (q_ref σ a0 0) 12), .int x1]) (h' := h) 4 rfl ⟨⟨ta0, q_tn k0⟩, k0, trivial⟩ ?_
    refine v_icmp_lt C0 cokX4_served rfl 18 (by decide) hf (fun _ hf => ?_) (fun _ hf => ?_)
    · refine v_run C0 tbX4 cokX4_served (pc' := 26) (lv' := [(0, .ref a0), (1, .int x1)]) (st' := [.ref (q_ref σ a0 0), .ref (q_ref σ a0 8)]) (h' := h) 4 rfl ⟨⟨ta0, q_tn k1⟩, ⟨ta0, q_tn k0⟩, trivial⟩ ?_
      obtain ⟨h1, e1, hf⟩ := q_bd hf
      refine v_callV C0 cokX4_served rfl (rest := []) (ctX0_load (q_ref σ a0 8) (q_ref σ a0 0) k1 k0 e1) calX0_load lkX4_184 inX0_load dnX0_load (ci := 0) ⟨rfl, by decide⟩ k1 rfl rfl ⟨by decide, by decide⟩ (Nat.le_of_ble_eq_true rfl) (Nat.le_refl _) (Nat.le_refl _) ?_
      refine v_run C0 tbX4 cokX4_served (pc' := 31) (lv' := [(0, .ref a0), (1, .int x1)]) (st' := [.int (-1 : Int32), .int x1]) (h' := h1) 2 rfl trivial ?_
      refine v_icmp_ne C0 cokX4_served rfl 56 (by decide) hf (fun _ hf => ?_) (fun _ hf => ?_)
      · refine v_run C0 tbX4 cokX4_served (pc' := 52) (lv' := [(0, .ref a0), (1, .int x1)]) (st' := [.int (q_int h1 (q_ref σ a0 8) 10), .int (q_int h1 (q_ref σ a0 8) 9), .ref (q_ref σ a0 8)]) (h' := h1) 8 rfl ⟨⟨ta0, q_tn k1⟩, ⟨ta0, q_tn k1⟩, k1, ⟨ta0, q_tn k1⟩, k1, trivial⟩ ?_
        obtain ⟨r4, h4, e4, hf⟩ := q_bd2 hf
        refine v_callV C0 cokX4_served rfl (rest := []) (ctX0_most (q_ref σ a0 8) (q_int h1 (q_ref σ a0 8) 9) (q_int h1 (q_ref σ a0 8) 10) k1 e4) calX0_most lkX4_194 inX0_most dnX0_most (ci := 0) ⟨rfl, by decide⟩ k1 rfl rfl ⟨by decide, by decide⟩ (Nat.le_of_ble_eq_true rfl) (Nat.le_refl _) (Nat.le_refl _) ?_
        obtain ⟨rfl, rfl⟩ := Prod.mk.inj (Option.some.inj hf)
        exact v_iret C0 cokX4_served hr hlk rfl
      · refine v_run C0 tbX4 cokX4_served (pc' := 60) (lv' := [(0, .ref a0), (1, .int x1)]) (st' := [.ref (q_ref σ a0 8)]) (h' := h1) 2 rfl ⟨⟨ta0, q_tn k1⟩, trivial⟩ ?_
        obtain ⟨r2, h2, e2, hf⟩ := q_bd2 hf
        refine v_callV C0 cokX4_served rfl (rest := []) (ctX0_chooseFirst (q_ref σ a0 8) k1 e2) calX0_chooseFirst lkX4_197 inX0_chooseFirst dnX0_chooseFirst (ci := 0) ⟨rfl, by decide⟩ k1 rfl rfl ⟨by decide, by decide⟩ (Nat.le_of_ble_eq_true rfl) (Nat.le_refl _) (Nat.le_refl _) ?_
        refine v_run C0 tbX4 cokX4_served (pc' := 72) (lv' := [(0, .ref a0), (1, .int x1)]) (st' := [.int x1, .ref (q_ref σ (q_ref σ a0 8) 8)]) (h' := h2) 5 rfl ⟨⟨ta0, q_tn k1⟩, ⟨k1, q_tn k2⟩, trivial⟩ ?_
        obtain ⟨r3, e3, hf⟩ := q_bd hf
        refine v_callS C0 cokX4_served rfl (rest := []) (ctX4_at (q_ref σ (q_ref σ a0 8) 8) x1 k2 e3) calX4_at lkX4_105 inX4_at dnX4_at rfl rfl ⟨by decide, by decide⟩ (Nat.le_of_ble_eq_true rfl) (Nat.le_refl _) (Nat.le_refl _) ?_
        obtain ⟨rfl, rfl⟩ := Prod.mk.inj (Option.some.inj hf)
        exact v_iret C0 cokX4_served hr hlk rfl
    · refine v_run C0 tbX4 cokX4_served (pc' := 17) (lv' := [(0, .ref a0), (1, .int x1)]) (st' := [.int (-1 : Int32)]) (h' := h) 1 rfl trivial ?_
      obtain ⟨rfl, rfl⟩ := Prod.mk.inj (Option.some.inj hf)
      exact v_iret C0 cokX4_served hr hlk rfl
-- BackByNoonOnMonday.leftOver()I
noncomputable def fX4_leftOver (σ : q_St) (h : q_Hp) (a0 : Nat) : Option (Int32 × q_Hp) := q_gu ((q_tag σ (q_ref σ a0 8) = 1) ∧ (q_tag σ (q_ref σ a0 0) = 3)) (((fX0_load σ h (q_ref σ a0 8) (q_ref σ a0 0)).bind fun h1 => (q_b2 (fX0_chooseFirst σ h1 (q_ref σ a0 8)) fun r2 h2 => some (r2, h2))))
def cdX4_leftOver : q_Cd := [(0, .aload_n 0), (1, .getfield 53), (4, .aload_n 0), (5, .getfield 12), (8, .invokevirtual 184), (11, .aload_n 0), (12, .getfield 53), (15, .invokevirtual 197), (18, .ireturn)]
set_option maxRecDepth 100000 in
theorem cokX4_leftOver : q_cok cX4_leftOver cdX4_leftOver := by unfold q_cok; decide +kernel
set_option maxRecDepth 100000 in
set_option maxHeartbeats 4000000 in
theorem ctX4_leftOver {l : Launch} {D : va_G} {cy : Nat → Nat} {b0 : Nat} {σ : q_St} {h : q_Hp} (a0 : Nat) {r : Int32} {h' : q_Hp} (ta0 : q_tag σ a0 = 5) (hf : fX4_leftOver σ h a0 = some (r, h')) : q_M l yX4_leftOver cX4_leftOver 1 (some .int) 6 149 0 0 D cy b0 σ h [.ref a0] (some (.int r)) σ h' := by
  unfold fX4_leftOver at hf
  obtain ⟨⟨k0, k1⟩, hf⟩ := q_gu_o hf
  refine q_enter (by decide) (Nat.le_of_ble_eq_true rfl) ?_
  intro p e s m args below meth c C0 hr hlk hnm
  replace C0 : VC p { frames := 6, cells := 0, slots := 0, locals := 149 } s m args meth c D cy b0 1 0 0 RX4 cX4_leftOver := C0
  refine v_run C0 tbX4 cokX4_leftOver (pc' := 8) (lv' := [(0, .ref a0)]) (st' := [.ref (q_ref σ a0 0), .ref (q_ref σ a0 8)]) (h' := h) 4 rfl ⟨⟨ta0, q_tn k0⟩, ⟨ta0, q_tn k1⟩, trivial⟩ ?_
  obtain ⟨h1, e1, hf⟩ := q_bd hf
  refine v_callV C0 cokX4_leftOver rfl (rest := []) (ctX0_load (q_ref σ a0 8) (q_ref σ a0 0) k0 k1 e1) calX0_load lkX4_184 inX0_load dnX0_load (ci := 0) ⟨rfl, by decide⟩ k0 rfl rfl ⟨by decide, by decide⟩ (Nat.le_of_ble_eq_true rfl) (Nat.le_refl _) (Nat.le_refl _) ?_
  refine v_run C0 tbX4 cokX4_leftOver (pc' := 15) (lv' := [(0, .ref a0)]) (st' := [.ref (q_ref σ a0 8)]) (h' := h1) 2 rfl ⟨⟨ta0, q_tn k0⟩, trivial⟩ ?_
  obtain ⟨r2, h2, e2, hf⟩ := q_bd2 hf
  refine v_callV C0 cokX4_leftOver rfl (rest := []) (ctX0_chooseFirst (q_ref σ a0 8) k0 e2) calX0_chooseFirst lkX4_197 inX0_chooseFirst dnX0_chooseFirst (ci := 0) ⟨rfl, by decide⟩ k0 rfl rfl ⟨by decide, by decide⟩ (Nat.le_of_ble_eq_true rfl) (Nat.le_refl _) (Nat.le_refl _) ?_
  obtain ⟨rfl, rfl⟩ := Prod.mk.inj (Option.some.inj hf)
  exact v_iret C0 cokX4_leftOver hr hlk rfl
-- BackByNoonOnMonday.earned()I
noncomputable def fX4_earned (σ : q_St) (h : q_Hp) (a0 : Nat) : Option (Int32 × q_Hp) := q_gu ((q_tag σ (q_ref σ a0 8) = 1) ∧ (q_tag σ (q_ref σ a0 0) = 3)) (((fX0_load σ h (q_ref σ a0 8) (q_ref σ a0 0)).bind fun h1 => (q_b2 (fX0_richest σ h1 (q_ref σ a0 8) (q_int h1 (q_ref σ a0 8) 9) (q_int h1 (q_ref σ a0 8) 10)) fun r2 h2 => some (r2, h2))))
def cdX4_earned : q_Cd := [(0, .aload_n 0), (1, .getfield 53), (4, .aload_n 0), (5, .getfield 12), (8, .invokevirtual 184), (11, .aload_n 0), (12, .getfield 53), (15, .aload_n 0), (16, .getfield 53), (19, .getfield 188), (22, .aload_n 0), (23, .getfield 53), (26, .getfield 191), (29, .invokevirtual 204), (32, .ireturn)]
set_option maxRecDepth 100000 in
theorem cokX4_earned : q_cok cX4_earned cdX4_earned := by unfold q_cok; decide +kernel
set_option maxRecDepth 100000 in
set_option maxHeartbeats 4000000 in
theorem ctX4_earned {l : Launch} {D : va_G} {cy : Nat → Nat} {b0 : Nat} {σ : q_St} {h : q_Hp} (a0 : Nat) {r : Int32} {h' : q_Hp} (ta0 : q_tag σ a0 = 5) (hf : fX4_earned σ h a0 = some (r, h')) : q_M l yX4_earned cX4_earned 1 (some .int) 4 100 0 0 D cy b0 σ h [.ref a0] (some (.int r)) σ h' := by
  unfold fX4_earned at hf
  obtain ⟨⟨k0, k1⟩, hf⟩ := q_gu_o hf
  refine q_enter (by decide) (Nat.le_of_ble_eq_true rfl) ?_
  intro p e s m args below meth c C0 hr hlk hnm
  replace C0 : VC p { frames := 4, cells := 0, slots := 0, locals := 100 } s m args meth c D cy b0 1 0 0 RX4 cX4_earned := C0
  refine v_run C0 tbX4 cokX4_earned (pc' := 8) (lv' := [(0, .ref a0)]) (st' := [.ref (q_ref σ a0 0), .ref (q_ref σ a0 8)]) (h' := h) 4 rfl ⟨⟨ta0, q_tn k0⟩, ⟨ta0, q_tn k1⟩, trivial⟩ ?_
  obtain ⟨h1, e1, hf⟩ := q_bd hf
  refine v_callV C0 cokX4_earned rfl (rest := []) (ctX0_load (q_ref σ a0 8) (q_ref σ a0 0) k0 k1 e1) calX0_load lkX4_184 inX0_load dnX0_load (ci := 0) ⟨rfl, by decide⟩ k0 rfl rfl ⟨by decide, by decide⟩ (Nat.le_of_ble_eq_true rfl) (Nat.le_refl _) (Nat.le_refl _) ?_
  refine v_run C0 tbX4 cokX4_earned (pc' := 29) (lv' := [(0, .ref a0)]) (st' := [.int (q_int h1 (q_ref σ a0 8) 10), .int (q_int h1 (q_ref σ a0 8) 9), .ref (q_ref σ a0 8)]) (h' := h1) 8 rfl ⟨⟨ta0, q_tn k0⟩, ⟨ta0, q_tn k0⟩, k0, ⟨ta0, q_tn k0⟩, k0, trivial⟩ ?_
  obtain ⟨r2, h2, e2, hf⟩ := q_bd2 hf
  refine v_callV C0 cokX4_earned rfl (rest := []) (ctX0_richest (q_ref σ a0 8) (q_int h1 (q_ref σ a0 8) 9) (q_int h1 (q_ref σ a0 8) 10) k0 e2) calX0_richest lkX4_204 inX0_richest dnX0_richest (ci := 0) ⟨rfl, by decide⟩ k0 rfl rfl ⟨by decide, by decide⟩ (Nat.le_of_ble_eq_true rfl) (Nat.le_refl _) (Nat.le_refl _) ?_
  obtain ⟨rfl, rfl⟩ := Prod.mk.inj (Option.some.inj hf)
  exact v_iret C0 cokX4_earned hr hlk rfl
-- BackByNoonOnMonday.alike()I
noncomputable def fX4_alike_70 (σ : q_St) (h : q_Hp) (a0 : Nat) (x1 : Int32) (x2 : Int32) : Option ((Int32 × Int32 × q_Hp) ⊕ (Int32 × q_Hp)) := some (Sum.inl (x1, (x2 + (1 : Int32)), h))
noncomputable def fX4_alike_69 (σ : q_St) (h : q_Hp) (a0 : Nat) (x2 : Int32) (s0 : Int32) : Option ((Int32 × Int32 × q_Hp) ⊕ (Int32 × q_Hp)) := fX4_alike_70 σ h a0 s0 x2
noncomputable def fX4_alike_15 (σ : q_St) (a0 : Nat) (x1 : Int32) (x2 : Int32) (h : q_Hp) : Option ((Int32 × Int32 × q_Hp) ⊕ (Int32 × q_Hp)) := (if (512 : Int32) ≤ x2 then some (Sum.inr (x1, h)) else (q_b2 (fX0_dress σ h (q_ref σ a0 8) (q_ref σ a0 0) x2) fun r3 h3 => (if r3 = 0 then fX4_alike_70 σ h3 a0 x1 x2 else (q_b2 (fX0_most σ h3 (q_ref σ a0 8) (q_int h3 (q_ref σ a0 8) 9) (q_int h3 (q_ref σ a0 8) 10)) fun r4 h4 => (if r4 ≤ x1 then fX4_alike_69 σ h4 a0 x2 x1 else fX4_alike_69 σ h4 a0 x2 r4)))))
noncomputable def fX4_alike (σ : q_St) (h : q_Hp) (a0 : Nat) : Option (Int32 × q_Hp) := q_gu ((q_tag σ (q_ref σ a0 8) = 1) ∧ (q_tag σ (q_ref σ a0 0) = 3)) (((fX0_load σ h (q_ref σ a0 8) (q_ref σ a0 0)).bind fun h1 => (q_loop (fun s => fX4_alike_15 σ a0 s.1 s.2.1 s.2.2) q_N ((0 : Int32), (0 : Int32), h1)).bind fun o2 => some (o2.1, o2.2)))
def cdX4_alike : q_Cd := [(0, .aload_n 0), (1, .getfield 53), (4, .aload_n 0), (5, .getfield 12), (8, .invokevirtual 184), (11, .iconst 0), (12, .istore_n 1), (13, .iconst 0), (14, .istore_n 2), (15, .iload_n 2), (16, .sipush 512), (19, .if_icmp .ge 57), (22, .aload_n 0), (23, .getfield 53), (26, .aload_n 0), (27, .getfield 12), (30, .iload_n 2), (31, .invokevirtual 207), (34, .ifCond .eq 36), (37, .aload_n 0), (38, .getfield 53), (41, .aload_n 0), (42, .getfield 53), (45, .getfield 188), (48, .aload_n 0), (49, .getfield 53), (52, .getfield 191), (55, .invokevirtual 194), (58, .istore_n 3), (59, .iload_n 3), (60, .iload_n 1), (61, .if_icmp .le 7), (64, .iload_n 3), (65, .goto 4), (68, .iload_n 1), (69, .istore_n 1), (70, .iinc 2 1), (73, .goto (-58)), (76, .iload_n 1), (77, .ireturn)]
set_option maxRecDepth 100000 in
theorem cokX4_alike : q_cok cX4_alike cdX4_alike := by unfold q_cok; decide +kernel
set_option maxRecDepth 100000 in
set_option maxHeartbeats 4000000 in
theorem ctX4_alike {l : Launch} {D : va_G} {cy : Nat → Nat} {b0 : Nat} {σ : q_St} {h : q_Hp} (a0 : Nat) {r : Int32} {h' : q_Hp} (ta0 : q_tag σ a0 = 5) (hf : fX4_alike σ h a0 = some (r, h')) : q_M l yX4_alike cX4_alike 4 (some .int) 4 98 0 0 D cy b0 σ h [.ref a0] (some (.int r)) σ h' := by
  unfold fX4_alike at hf
  obtain ⟨⟨k0, k1⟩, hf⟩ := q_gu_o hf
  refine q_enter (by decide) (Nat.le_of_ble_eq_true rfl) ?_
  intro p e s m args below meth c C0 hr hlk hnm
  replace C0 : VC p { frames := 4, cells := 0, slots := 0, locals := 98 } s m args meth c D cy b0 4 0 0 RX4 cX4_alike := C0
  have n15 : ∀ (o : (Int32 × q_Hp)) (s1 : (Int32 × Int32 × q_Hp)), q_loop (fun s => fX4_alike_15 σ a0 s.1 s.2.1 s.2.2) q_N s1 = some o → V p l e { frames := 4, cells := 0, slots := 0, locals := 98 } s m args below meth c (MQ below (q_Qc D cy b0 (some (.int r)) σ h') args s 0 0 (fun q => b0 ≤ q)) D cy b0 4 0 0 0 0 σ o.2 76 [(1, .int o.1)] [] → V p l e { frames := 4, cells := 0, slots := 0, locals := 98 } s m args below meth c (MQ below (q_Qc D cy b0 (some (.int r)) σ h') args s 0 0 (fun q => b0 ≤ q)) D cy b0 4 0 0 0 0 σ s1.2.2 15 [(0, .ref a0), (1, .int s1.1), (2, .int s1.2.1)] [] := by
    intro o s1 ho kx1
    refine q_loop_V (P := fun s0 => V p l e { frames := 4, cells := 0, slots := 0, locals := 98 } s m args below meth c (MQ below (q_Qc D cy b0 (some (.int r)) σ h') args s 0 0 (fun q => b0 ≤ q)) D cy b0 4 0 0 0 0 σ s0.2.2 15 [(0, .ref a0), (1, .int s0.1), (2, .int s0.2.1)] []) (o := o) ?_ q_N s1 ho
    intro s2 z1 hf kb1 kr1
    obtain ⟨x1, x2, h⟩ := s2
    replace hf : fX4_alike_15 σ a0 x1 x2 h = some z1 := hf
    unfold fX4_alike_15 at hf
    show V p l e { frames := 4, cells := 0, slots := 0, locals := 98 } s m args below meth c (MQ below (q_Qc D cy b0 (some (.int r)) σ h') args s 0 0 (fun q => b0 ≤ q)) D cy b0 4 0 0 0 0 σ h 15 [(0, .ref a0), (1, .int x1), (2, .int x2)] []
    have n70 : ∀ (h : q_Hp) (x1 : Int32) (x2 : Int32), fX4_alike_70 σ h a0 x1 x2 = some z1 → V p l e { frames := 4, cells := 0, slots := 0, locals := 98 } s m args below meth c (MQ below (q_Qc D cy b0 (some (.int r)) σ h') args s 0 0 (fun q => b0 ≤ q)) D cy b0 4 0 0 0 0 σ h 70 [(0, .ref a0), (1, .int x1), (2, .int x2)] [] := by
      intro h x1 x2 hf
      unfold fX4_alike_70 at hf
      refine v_run C0 tbX4 cokX4_alike (pc' := 15) (lv' := [(2, .int (x2 + (1 : Int32))), (0, .ref a0), (1, .int x1)]) (st' := []) (h' := h) 2 rfl trivial ?_
      obtain rfl := Option.some.inj hf
      refine v_pick [1, 2, 0] rfl ?_
      exact kb1 _ rfl
    have n69 : ∀ (h : q_Hp) (x2 : Int32) (s0 : Int32), fX4_alike_69 σ h a0 x2 s0 = some z1 → V p l e { frames := 4, cells := 0, slots := 0, locals := 98 } s m args below meth c (MQ below (q_Qc D cy b0 (some (.int r)) σ h') args s 0 0 (fun q => b0 ≤ q)) D cy b0 4 0 0 0 0 σ h 69 [(0, .ref a0), (2, .int x2)] [.int s0] := by
      intro h x2 s0 hf
      unfold fX4_alike_69 at hf
      refine v_run C0 tbX4 cokX4_alike (pc' := 70) (lv' := [(1, .int s0), (0, .ref a0), (2, .int x2)]) (st' := []) (h' := h) 1 rfl trivial ?_
      refine v_pick [1, 0, 2] rfl ?_
      exact n70 h s0 x2 hf
    refine v_run C0 tbX4 cokX4_alike (pc' := 19) (lv' := [(0, .ref a0), (1, .int x1), (2, .int x2)]) (st' := [.int (512 : Int32), .int x2]) (h' := h) 2 rfl trivial ?_
    refine v_icmp_ge C0 cokX4_alike rfl 76 (by decide) hf (fun _ hf => ?_) (fun _ hf => ?_)
    · obtain rfl := Option.some.inj hf
      refine v_pick [1] rfl ?_
      have hx := kr1 _ rfl
      subst hx
      exact kx1
    · refine v_run C0 tbX4 cokX4_alike (pc' := 31) (lv' := [(0, .ref a0), (1, .int x1), (2, .int x2)]) (st' := [.int x2, .ref (q_ref σ a0 0), .ref (q_ref σ a0 8)]) (h' := h) 5 rfl ⟨⟨ta0, q_tn k0⟩, ⟨ta0, q_tn k1⟩, trivial⟩ ?_
      obtain ⟨r3, h3, e3, hf⟩ := q_bd2 hf
      refine v_callV C0 cokX4_alike rfl (rest := []) (ctX0_dress (q_ref σ a0 8) (q_ref σ a0 0) x2 k0 k1 e3) calX0_dress lkX4_207 inX0_dress dnX0_dress (ci := 0) ⟨rfl, by decide⟩ k0 rfl rfl ⟨by decide, by decide⟩ (Nat.le_of_ble_eq_true rfl) (Nat.le_refl _) (Nat.le_refl _) ?_
      refine v_if_eq C0 cokX4_alike rfl 70 (by decide) hf (fun _ hf => ?_) (fun _ hf => ?_)
      · refine v_pick [0, 1, 2] rfl ?_
        exact n70 h3 x1 x2 hf
      · refine v_run C0 tbX4 cokX4_alike (pc' := 55) (lv' := [(0, .ref a0), (1, .int x1), (2, .int x2)]) (st' := [.int (q_int h3 (q_ref σ a0 8) 10), .int (q_int h3 (q_ref σ a0 8) 9), .ref (q_ref σ a0 8)]) (h' := h3) 8 rfl ⟨⟨ta0, q_tn k0⟩, ⟨ta0, q_tn k0⟩, k0, ⟨ta0, q_tn k0⟩, k0, trivial⟩ ?_
        obtain ⟨r4, h4, e4, hf⟩ := q_bd2 hf
        refine v_callV C0 cokX4_alike rfl (rest := []) (ctX0_most (q_ref σ a0 8) (q_int h3 (q_ref σ a0 8) 9) (q_int h3 (q_ref σ a0 8) 10) k0 e4) calX0_most lkX4_194 inX0_most dnX0_most (ci := 0) ⟨rfl, by decide⟩ k0 rfl rfl ⟨by decide, by decide⟩ (Nat.le_of_ble_eq_true rfl) (Nat.le_refl _) (Nat.le_refl _) ?_
        refine v_run C0 tbX4 cokX4_alike (pc' := 61) (lv' := [(3, .int r4), (0, .ref a0), (1, .int x1), (2, .int x2)]) (st' := [.int x1, .int r4]) (h' := h4) 3 rfl trivial ?_
        refine v_icmp_le C0 cokX4_alike rfl 68 (by decide) hf (fun _ hf => ?_) (fun _ hf => ?_)
        · refine v_run C0 tbX4 cokX4_alike (pc' := 69) (lv' := [(3, .int r4), (0, .ref a0), (1, .int x1), (2, .int x2)]) (st' := [.int x1]) (h' := h4) 1 rfl trivial ?_
          refine v_pick [1, 3] rfl ?_
          exact n69 h4 x2 x1 hf
        · refine v_run C0 tbX4 cokX4_alike (pc' := 69) (lv' := [(3, .int r4), (0, .ref a0), (1, .int x1), (2, .int x2)]) (st' := [.int r4]) (h' := h4) 2 rfl trivial ?_
          refine v_pick [1, 3] rfl ?_
          exact n69 h4 x2 r4 hf
  refine v_run C0 tbX4 cokX4_alike (pc' := 8) (lv' := [(0, .ref a0)]) (st' := [.ref (q_ref σ a0 0), .ref (q_ref σ a0 8)]) (h' := h) 4 rfl ⟨⟨ta0, q_tn k0⟩, ⟨ta0, q_tn k1⟩, trivial⟩ ?_
  obtain ⟨h1, e1, hf⟩ := q_bd hf
  refine v_callV C0 cokX4_alike rfl (rest := []) (ctX0_load (q_ref σ a0 8) (q_ref σ a0 0) k0 k1 e1) calX0_load lkX4_184 inX0_load dnX0_load (ci := 0) ⟨rfl, by decide⟩ k0 rfl rfl ⟨by decide, by decide⟩ (Nat.le_of_ble_eq_true rfl) (Nat.le_refl _) (Nat.le_refl _) ?_
  refine v_run C0 tbX4 cokX4_alike (pc' := 15) (lv' := [(2, .int (0 : Int32)), (1, .int (0 : Int32)), (0, .ref a0)]) (st' := []) (h' := h1) 4 rfl trivial ?_
  obtain ⟨o2, eo2, hf⟩ := q_bd hf
  refine v_pick [2, 1, 0] rfl ?_
  refine n15 o2 ((0 : Int32), (0 : Int32), h1) eo2 ?_
  refine v_run C0 tbX4 cokX4_alike (pc' := 77) (lv' := [(1, .int o2.1)]) (st' := [.int o2.1]) (h' := o2.2) 1 rfl trivial ?_
  obtain ⟨rfl, rfl⟩ := Prod.mk.inj (Option.some.inj hf)
  exact v_iret C0 cokX4_alike hr hlk rfl
-- BackByNoonOnMonday.oneMore()I
noncomputable def fX4_oneMore_35 (σ : q_St) (a0 : Nat) (x1 : Int32) (x2 : Int32) (h : q_Hp) : Option ((Int32 × q_Hp) ⊕ (q_Hp ⊕ (Int32 × q_Hp))) := (if (20 : Int32) < x2 then some (Sum.inr (Sum.inl h)) else ((fX0_lend σ h (q_ref σ a0 8) (q_ref σ a0 0) (q_ref σ a0 7) x2).bind fun h5 => (q_b2 (fX0_most σ h5 (q_ref σ a0 8) (q_int h5 (q_ref σ a0 8) 9) ((q_int h5 (q_ref σ a0 8) 10) ||| (128 : Int32))) fun r6 h6 => (if r6 ≤ x1 then some (Sum.inl ((x2 + (1 : Int32)), h6)) else some (Sum.inr (Sum.inr (x2, h6)))))))
noncomputable def fX4_oneMore (σ : q_St) (h : q_Hp) (a0 : Nat) : Option (Int32 × q_Hp) := q_gu ((q_tag σ (q_ref σ a0 8) = 1) ∧ (q_tag σ (q_ref σ a0 0) = 3) ∧ (q_tag σ (q_ref σ a0 7) = 4)) (((fX0_load σ h (q_ref σ a0 8) (q_ref σ a0 0)).bind fun h1 => (q_b2 (fX0_most σ h1 (q_ref σ a0 8) (q_int h1 (q_ref σ a0 8) 9) (q_int h1 (q_ref σ a0 8) 10)) fun r2 h2 => (q_loop (fun s => fX4_oneMore_35 σ a0 r2 s.1 s.2) q_N ((0 : Int32), h2)).bind fun o3 => q_el o3 fun w4 => some ((-4 : Int32), w4))))
def cdX4_oneMore : q_Cd := [(0, .aload_n 0), (1, .getfield 53), (4, .aload_n 0), (5, .getfield 12), (8, .invokevirtual 184), (11, .aload_n 0), (12, .getfield 53), (15, .aload_n 0), (16, .getfield 53), (19, .getfield 188), (22, .aload_n 0), (23, .getfield 53), (26, .getfield 191), (29, .invokevirtual 194), (32, .istore_n 1), (33, .iconst 0), (34, .istore_n 2), (35, .iload_n 2), (36, .bipush 20), (38, .if_icmp .gt 56), (41, .aload_n 0), (42, .getfield 53), (45, .aload_n 0), (46, .getfield 12), (49, .aload_n 0), (50, .getfield 46), (53, .iload_n 2), (54, .invokevirtual 211), (57, .aload_n 0), (58, .getfield 53), (61, .aload_n 0), (62, .getfield 53), (65, .getfield 188), (68, .aload_n 0), (69, .getfield 53), (72, .getfield 191), (75, .sipush 128), (78, .ior), (79, .invokevirtual 194), (82, .iload_n 1), (83, .if_icmp .le 5), (86, .iload_n 2), (87, .ireturn), (88, .iinc 2 1), (91, .goto (-56)), (94, .bipush (-4)), (96, .ireturn)]
set_option maxRecDepth 100000 in
theorem cokX4_oneMore : q_cok cX4_oneMore cdX4_oneMore := by unfold q_cok; decide +kernel
set_option maxRecDepth 100000 in
set_option maxHeartbeats 4000000 in
theorem ctX4_oneMore {l : Launch} {D : va_G} {cy : Nat → Nat} {b0 : Nat} {σ : q_St} {h : q_Hp} (a0 : Nat) {r : Int32} {h' : q_Hp} (ta0 : q_tag σ a0 = 5) (hf : fX4_oneMore σ h a0 = some (r, h')) : q_M l yX4_oneMore cX4_oneMore 3 (some .int) 4 98 0 0 D cy b0 σ h [.ref a0] (some (.int r)) σ h' := by
  unfold fX4_oneMore at hf
  obtain ⟨⟨k0, k1, k2⟩, hf⟩ := q_gu_o hf
  refine q_enter (by decide) (Nat.le_of_ble_eq_true rfl) ?_
  intro p e s m args below meth c C0 hr hlk hnm
  replace C0 : VC p { frames := 4, cells := 0, slots := 0, locals := 98 } s m args meth c D cy b0 3 0 0 RX4 cX4_oneMore := C0
  have n35 : ∀ (x1 : Int32) (o : (q_Hp ⊕ (Int32 × q_Hp))) (s1 : (Int32 × q_Hp)), q_loop (fun s => fX4_oneMore_35 σ a0 x1 s.1 s.2) q_N s1 = some o → (∀ w0 : q_Hp, Sum.inl w0 = o → V p l e { frames := 4, cells := 0, slots := 0, locals := 98 } s m args below meth c (MQ below (q_Qc D cy b0 (some (.int r)) σ h') args s 0 0 (fun q => b0 ≤ q)) D cy b0 3 0 0 0 0 σ w0 94 [] []) → (∀ r0 : (Int32 × q_Hp), Sum.inr r0 = o → (some r0 : Option (Int32 × q_Hp)) = some (r, h')) → V p l e { frames := 4, cells := 0, slots := 0, locals := 98 } s m args below meth c (MQ below (q_Qc D cy b0 (some (.int r)) σ h') args s 0 0 (fun q => b0 ≤ q)) D cy b0 3 0 0 0 0 σ s1.2 35 [(0, .ref a0), (1, .int x1), (2, .int s1.1)] [] := by
    intro x1 o s1 ho kx1 ke1
    refine q_loop_V (P := fun s0 => V p l e { frames := 4, cells := 0, slots := 0, locals := 98 } s m args below meth c (MQ below (q_Qc D cy b0 (some (.int r)) σ h') args s 0 0 (fun q => b0 ≤ q)) D cy b0 3 0 0 0 0 σ s0.2 35 [(0, .ref a0), (1, .int x1), (2, .int s0.1)] []) (o := o) ?_ q_N s1 ho
    intro s2 z1 hf kb1 kr1
    obtain ⟨x2, h⟩ := s2
    replace hf : fX4_oneMore_35 σ a0 x1 x2 h = some z1 := hf
    unfold fX4_oneMore_35 at hf
    show V p l e { frames := 4, cells := 0, slots := 0, locals := 98 } s m args below meth c (MQ below (q_Qc D cy b0 (some (.int r)) σ h') args s 0 0 (fun q => b0 ≤ q)) D cy b0 3 0 0 0 0 σ h 35 [(0, .ref a0), (1, .int x1), (2, .int x2)] []
    refine v_run C0 tbX4 cokX4_oneMore (pc' := 38) (lv' := [(0, .ref a0), (1, .int x1), (2, .int x2)]) (st' := [.int (20 : Int32), .int x2]) (h' := h) 2 rfl trivial ?_
    refine v_icmp_gt C0 cokX4_oneMore rfl 94 (by decide) hf (fun _ hf => ?_) (fun _ hf => ?_)
    · obtain rfl := Option.some.inj hf
      refine v_pick [] rfl ?_
      exact kx1 _ (kr1 _ rfl)
    · refine v_run C0 tbX4 cokX4_oneMore (pc' := 54) (lv' := [(0, .ref a0), (1, .int x1), (2, .int x2)]) (st' := [.int x2, .ref (q_ref σ a0 7), .ref (q_ref σ a0 0), .ref (q_ref σ a0 8)]) (h' := h) 7 rfl ⟨⟨ta0, q_tn k0⟩, ⟨ta0, q_tn k1⟩, ⟨ta0, q_tn k2⟩, trivial⟩ ?_
      obtain ⟨h5, e5, hf⟩ := q_bd hf
      refine v_callV C0 cokX4_oneMore rfl (rest := []) (ctX0_lend (q_ref σ a0 8) (q_ref σ a0 0) (q_ref σ a0 7) x2 k0 k1 k2 e5) calX0_lend lkX4_211 inX0_lend dnX0_lend (ci := 0) ⟨rfl, by decide⟩ k0 rfl rfl ⟨by decide, by decide⟩ (Nat.le_of_ble_eq_true rfl) (Nat.le_refl _) (Nat.le_refl _) ?_
      refine v_run C0 tbX4 cokX4_oneMore (pc' := 79) (lv' := [(0, .ref a0), (1, .int x1), (2, .int x2)]) (st' := [.int ((q_int h5 (q_ref σ a0 8) 10) ||| (128 : Int32)), .int (q_int h5 (q_ref σ a0 8) 9), .ref (q_ref σ a0 8)]) (h' := h5) 10 rfl ⟨⟨ta0, q_tn k0⟩, ⟨ta0, q_tn k0⟩, k0, ⟨ta0, q_tn k0⟩, k0, trivial⟩ ?_
      obtain ⟨r6, h6, e6, hf⟩ := q_bd2 hf
      refine v_callV C0 cokX4_oneMore rfl (rest := []) (ctX0_most (q_ref σ a0 8) (q_int h5 (q_ref σ a0 8) 9) ((q_int h5 (q_ref σ a0 8) 10) ||| (128 : Int32)) k0 e6) calX0_most lkX4_194 inX0_most dnX0_most (ci := 0) ⟨rfl, by decide⟩ k0 rfl rfl ⟨by decide, by decide⟩ (Nat.le_of_ble_eq_true rfl) (Nat.le_refl _) (Nat.le_refl _) ?_
      refine v_run C0 tbX4 cokX4_oneMore (pc' := 83) (lv' := [(0, .ref a0), (1, .int x1), (2, .int x2)]) (st' := [.int x1, .int r6]) (h' := h6) 1 rfl trivial ?_
      refine v_icmp_le C0 cokX4_oneMore rfl 88 (by decide) hf (fun _ hf => ?_) (fun _ hf => ?_)
      · refine v_run C0 tbX4 cokX4_oneMore (pc' := 35) (lv' := [(2, .int (x2 + (1 : Int32))), (0, .ref a0), (1, .int x1)]) (st' := []) (h' := h6) 2 rfl trivial ?_
        obtain rfl := Option.some.inj hf
        refine v_pick [1, 2, 0] rfl ?_
        exact kb1 _ rfl
      · refine v_run C0 tbX4 cokX4_oneMore (pc' := 87) (lv' := [(0, .ref a0), (1, .int x1), (2, .int x2)]) (st' := [.int x2]) (h' := h6) 1 rfl trivial ?_
        obtain rfl := Option.some.inj hf
        have hf := ke1 _ (kr1 _ rfl)
        obtain ⟨rfl, rfl⟩ := Prod.mk.inj (Option.some.inj hf)
        exact v_iret C0 cokX4_oneMore hr hlk rfl
  refine v_run C0 tbX4 cokX4_oneMore (pc' := 8) (lv' := [(0, .ref a0)]) (st' := [.ref (q_ref σ a0 0), .ref (q_ref σ a0 8)]) (h' := h) 4 rfl ⟨⟨ta0, q_tn k0⟩, ⟨ta0, q_tn k1⟩, trivial⟩ ?_
  obtain ⟨h1, e1, hf⟩ := q_bd hf
  refine v_callV C0 cokX4_oneMore rfl (rest := []) (ctX0_load (q_ref σ a0 8) (q_ref σ a0 0) k0 k1 e1) calX0_load lkX4_184 inX0_load dnX0_load (ci := 0) ⟨rfl, by decide⟩ k0 rfl rfl ⟨by decide, by decide⟩ (Nat.le_of_ble_eq_true rfl) (Nat.le_refl _) (Nat.le_refl _) ?_
  refine v_run C0 tbX4 cokX4_oneMore (pc' := 29) (lv' := [(0, .ref a0)]) (st' := [.int (q_int h1 (q_ref σ a0 8) 10), .int (q_int h1 (q_ref σ a0 8) 9), .ref (q_ref σ a0 8)]) (h' := h1) 8 rfl ⟨⟨ta0, q_tn k0⟩, ⟨ta0, q_tn k0⟩, k0, ⟨ta0, q_tn k0⟩, k0, trivial⟩ ?_
  obtain ⟨r2, h2, e2, hf⟩ := q_bd2 hf
  refine v_callV C0 cokX4_oneMore rfl (rest := []) (ctX0_most (q_ref σ a0 8) (q_int h1 (q_ref σ a0 8) 9) (q_int h1 (q_ref σ a0 8) 10) k0 e2) calX0_most lkX4_194 inX0_most dnX0_most (ci := 0) ⟨rfl, by decide⟩ k0 rfl rfl ⟨by decide, by decide⟩ (Nat.le_of_ble_eq_true rfl) (Nat.le_refl _) (Nat.le_refl _) ?_
  refine v_run C0 tbX4 cokX4_oneMore (pc' := 35) (lv' := [(2, .int (0 : Int32)), (1, .int r2), (0, .ref a0)]) (st' := []) (h' := h2) 3 rfl trivial ?_
  obtain ⟨o3, eo3, hf⟩ := q_bd hf
  refine v_pick [2, 1, 0] rfl ?_
  refine n35 r2 o3 ((0 : Int32), h2) eo3 (fun w4 hx => ?_) (fun r0 hx => ?_)
  · rw [← hx] at hf
    replace hf := q_el_l hf
    refine v_run C0 tbX4 cokX4_oneMore (pc' := 96) (lv' := []) (st' := [.int (-4 : Int32)]) (h' := w4) 1 rfl trivial ?_
    obtain ⟨rfl, rfl⟩ := Prod.mk.inj (Option.some.inj hf)
    exact v_iret C0 cokX4_oneMore hr hlk rfl
  · rw [← hx] at hf
    exact hf
-- java/lang/Integer.bitCount(I)I
noncomputable def fJ6_bitCount_0f7a4 (σ : q_St) (h : q_Hp) (x0 : Int32) : Option Int32 := some ((((((((x0 - (((Int32.toUInt32 x0 >>> (Int32.toUInt32 (1 : Int32) &&& Int32.toUInt32 31)).toInt32) &&& (1431655765 : Int32))) &&& (858993459 : Int32)) + (((Int32.toUInt32 (x0 - (((Int32.toUInt32 x0 >>> (Int32.toUInt32 (1 : Int32) &&& Int32.toUInt32 31)).toInt32) &&& (1431655765 : Int32))) >>> (Int32.toUInt32 (2 : Int32) &&& Int32.toUInt32 31)).toInt32) &&& (858993459 : Int32))) + ((Int32.toUInt32 (((x0 - (((Int32.toUInt32 x0 >>> (Int32.toUInt32 (1 : Int32) &&& Int32.toUInt32 31)).toInt32) &&& (1431655765 : Int32))) &&& (858993459 : Int32)) + (((Int32.toUInt32 (x0 - (((Int32.toUInt32 x0 >>> (Int32.toUInt32 (1 : Int32) &&& Int32.toUInt32 31)).toInt32) &&& (1431655765 : Int32))) >>> (Int32.toUInt32 (2 : Int32) &&& Int32.toUInt32 31)).toInt32) &&& (858993459 : Int32))) >>> (Int32.toUInt32 (4 : Int32) &&& Int32.toUInt32 31)).toInt32)) &&& (252645135 : Int32)) + ((Int32.toUInt32 (((((x0 - (((Int32.toUInt32 x0 >>> (Int32.toUInt32 (1 : Int32) &&& Int32.toUInt32 31)).toInt32) &&& (1431655765 : Int32))) &&& (858993459 : Int32)) + (((Int32.toUInt32 (x0 - (((Int32.toUInt32 x0 >>> (Int32.toUInt32 (1 : Int32) &&& Int32.toUInt32 31)).toInt32) &&& (1431655765 : Int32))) >>> (Int32.toUInt32 (2 : Int32) &&& Int32.toUInt32 31)).toInt32) &&& (858993459 : Int32))) + ((Int32.toUInt32 (((x0 - (((Int32.toUInt32 x0 >>> (Int32.toUInt32 (1 : Int32) &&& Int32.toUInt32 31)).toInt32) &&& (1431655765 : Int32))) &&& (858993459 : Int32)) + (((Int32.toUInt32 (x0 - (((Int32.toUInt32 x0 >>> (Int32.toUInt32 (1 : Int32) &&& Int32.toUInt32 31)).toInt32) &&& (1431655765 : Int32))) >>> (Int32.toUInt32 (2 : Int32) &&& Int32.toUInt32 31)).toInt32) &&& (858993459 : Int32))) >>> (Int32.toUInt32 (4 : Int32) &&& Int32.toUInt32 31)).toInt32)) &&& (252645135 : Int32)) >>> (Int32.toUInt32 (8 : Int32) &&& Int32.toUInt32 31)).toInt32)) + ((Int32.toUInt32 ((((((x0 - (((Int32.toUInt32 x0 >>> (Int32.toUInt32 (1 : Int32) &&& Int32.toUInt32 31)).toInt32) &&& (1431655765 : Int32))) &&& (858993459 : Int32)) + (((Int32.toUInt32 (x0 - (((Int32.toUInt32 x0 >>> (Int32.toUInt32 (1 : Int32) &&& Int32.toUInt32 31)).toInt32) &&& (1431655765 : Int32))) >>> (Int32.toUInt32 (2 : Int32) &&& Int32.toUInt32 31)).toInt32) &&& (858993459 : Int32))) + ((Int32.toUInt32 (((x0 - (((Int32.toUInt32 x0 >>> (Int32.toUInt32 (1 : Int32) &&& Int32.toUInt32 31)).toInt32) &&& (1431655765 : Int32))) &&& (858993459 : Int32)) + (((Int32.toUInt32 (x0 - (((Int32.toUInt32 x0 >>> (Int32.toUInt32 (1 : Int32) &&& Int32.toUInt32 31)).toInt32) &&& (1431655765 : Int32))) >>> (Int32.toUInt32 (2 : Int32) &&& Int32.toUInt32 31)).toInt32) &&& (858993459 : Int32))) >>> (Int32.toUInt32 (4 : Int32) &&& Int32.toUInt32 31)).toInt32)) &&& (252645135 : Int32)) + ((Int32.toUInt32 (((((x0 - (((Int32.toUInt32 x0 >>> (Int32.toUInt32 (1 : Int32) &&& Int32.toUInt32 31)).toInt32) &&& (1431655765 : Int32))) &&& (858993459 : Int32)) + (((Int32.toUInt32 (x0 - (((Int32.toUInt32 x0 >>> (Int32.toUInt32 (1 : Int32) &&& Int32.toUInt32 31)).toInt32) &&& (1431655765 : Int32))) >>> (Int32.toUInt32 (2 : Int32) &&& Int32.toUInt32 31)).toInt32) &&& (858993459 : Int32))) + ((Int32.toUInt32 (((x0 - (((Int32.toUInt32 x0 >>> (Int32.toUInt32 (1 : Int32) &&& Int32.toUInt32 31)).toInt32) &&& (1431655765 : Int32))) &&& (858993459 : Int32)) + (((Int32.toUInt32 (x0 - (((Int32.toUInt32 x0 >>> (Int32.toUInt32 (1 : Int32) &&& Int32.toUInt32 31)).toInt32) &&& (1431655765 : Int32))) >>> (Int32.toUInt32 (2 : Int32) &&& Int32.toUInt32 31)).toInt32) &&& (858993459 : Int32))) >>> (Int32.toUInt32 (4 : Int32) &&& Int32.toUInt32 31)).toInt32)) &&& (252645135 : Int32)) >>> (Int32.toUInt32 (8 : Int32) &&& Int32.toUInt32 31)).toInt32)) >>> (Int32.toUInt32 (16 : Int32) &&& Int32.toUInt32 31)).toInt32)) &&& (63 : Int32))
def cdJ6_bitCount_0f7a4 : q_Cd := [(0, .iload_n 0), (1, .iload_n 0), (2, .iconst 1), (3, .iushr), (4, .ldc_w 265), (7, .iand), (8, .isub), (9, .istore_n 0), (10, .iload_n 0), (11, .ldc_w 266), (14, .iand), (15, .iload_n 0), (16, .iconst 2), (17, .iushr), (18, .ldc_w 266), (21, .iand), (22, .iadd), (23, .istore_n 0), (24, .iload_n 0), (25, .iload_n 0), (26, .iconst 4), (27, .iushr), (28, .iadd), (29, .ldc_w 267), (32, .iand), (33, .istore_n 0), (34, .iload_n 0), (35, .iload_n 0), (36, .bipush 8), (38, .iushr), (39, .iadd), (40, .istore_n 0), (41, .iload_n 0), (42, .iload_n 0), (43, .bipush 16), (45, .iushr), (46, .iadd), (47, .istore_n 0), (48, .iload_n 0), (49, .bipush 63), (51, .iand), (52, .ireturn)]
set_option maxRecDepth 100000 in
theorem cokJ6_bitCount_0f7a4 : q_cok cJ6_bitCount_0f7a4 cdJ6_bitCount_0f7a4 := by unfold q_cok; decide +kernel
set_option maxRecDepth 100000 in
set_option maxHeartbeats 4000000 in
theorem ctJ6_bitCount_0f7a4 {l : Launch} {D : va_G} {cy : Nat → Nat} {b0 : Nat} {σ : q_St} {h : q_Hp} (x0 : Int32) {r : Int32} (hf : fJ6_bitCount_0f7a4 σ h x0 = some r) : q_M l yJ6_bitCount_0f7a4 cJ6_bitCount_0f7a4 1 (some .int) 0 0 0 0 D cy b0 σ h [.int x0] (some (.int r)) σ h := by
  unfold fJ6_bitCount_0f7a4 at hf
  refine q_enter (by decide) (Nat.le_of_ble_eq_true rfl) ?_
  intro p e s m args below meth c C0 hr hlk hnm
  replace C0 : VC p { frames := 0, cells := 0, slots := 0, locals := 0 } s m args meth c D cy b0 1 0 0 RJ6 cJ6_bitCount_0f7a4 := C0
  refine v_run C0 tbJ6 cokJ6_bitCount_0f7a4 (pc' := 52) (lv' := [(0, .int (((((((x0 - (((Int32.toUInt32 x0 >>> (Int32.toUInt32 (1 : Int32) &&& Int32.toUInt32 31)).toInt32) &&& (1431655765 : Int32))) &&& (858993459 : Int32)) + (((Int32.toUInt32 (x0 - (((Int32.toUInt32 x0 >>> (Int32.toUInt32 (1 : Int32) &&& Int32.toUInt32 31)).toInt32) &&& (1431655765 : Int32))) >>> (Int32.toUInt32 (2 : Int32) &&& Int32.toUInt32 31)).toInt32) &&& (858993459 : Int32))) + ((Int32.toUInt32 (((x0 - (((Int32.toUInt32 x0 >>> (Int32.toUInt32 (1 : Int32) &&& Int32.toUInt32 31)).toInt32) &&& (1431655765 : Int32))) &&& (858993459 : Int32)) + (((Int32.toUInt32 (x0 - (((Int32.toUInt32 x0 >>> (Int32.toUInt32 (1 : Int32) &&& Int32.toUInt32 31)).toInt32) &&& (1431655765 : Int32))) >>> (Int32.toUInt32 (2 : Int32) &&& Int32.toUInt32 31)).toInt32) &&& (858993459 : Int32))) >>> (Int32.toUInt32 (4 : Int32) &&& Int32.toUInt32 31)).toInt32)) &&& (252645135 : Int32)) + ((Int32.toUInt32 (((((x0 - (((Int32.toUInt32 x0 >>> (Int32.toUInt32 (1 : Int32) &&& Int32.toUInt32 31)).toInt32) &&& (1431655765 : Int32))) &&& (858993459 : Int32)) + (((Int32.toUInt32 (x0 - (((Int32.toUInt32 x0 >>> (Int32.toUInt32 (1 : Int32) &&& Int32.toUInt32 31)).toInt32) &&& (1431655765 : Int32))) >>> (Int32.toUInt32 (2 : Int32) &&& Int32.toUInt32 31)).toInt32) &&& (858993459 : Int32))) + ((Int32.toUInt32 (((x0 - (((Int32.toUInt32 x0 >>> (Int32.toUInt32 (1 : Int32) &&& Int32.toUInt32 31)).toInt32) &&& (1431655765 : Int32))) &&& (858993459 : Int32)) + (((Int32.toUInt32 (x0 - (((Int32.toUInt32 x0 >>> (Int32.toUInt32 (1 : Int32) &&& Int32.toUInt32 31)).toInt32) &&& (1431655765 : Int32))) >>> (Int32.toUInt32 (2 : Int32) &&& Int32.toUInt32 31)).toInt32) &&& (858993459 : Int32))) >>> (Int32.toUInt32 (4 : Int32) &&& Int32.toUInt32 31)).toInt32)) &&& (252645135 : Int32)) >>> (Int32.toUInt32 (8 : Int32) &&& Int32.toUInt32 31)).toInt32)) + ((Int32.toUInt32 ((((((x0 - (((Int32.toUInt32 x0 >>> (Int32.toUInt32 (1 : Int32) &&& Int32.toUInt32 31)).toInt32) &&& (1431655765 : Int32))) &&& (858993459 : Int32)) + (((Int32.toUInt32 (x0 - (((Int32.toUInt32 x0 >>> (Int32.toUInt32 (1 : Int32) &&& Int32.toUInt32 31)).toInt32) &&& (1431655765 : Int32))) >>> (Int32.toUInt32 (2 : Int32) &&& Int32.toUInt32 31)).toInt32) &&& (858993459 : Int32))) + ((Int32.toUInt32 (((x0 - (((Int32.toUInt32 x0 >>> (Int32.toUInt32 (1 : Int32) &&& Int32.toUInt32 31)).toInt32) &&& (1431655765 : Int32))) &&& (858993459 : Int32)) + (((Int32.toUInt32 (x0 - (((Int32.toUInt32 x0 >>> (Int32.toUInt32 (1 : Int32) &&& Int32.toUInt32 31)).toInt32) &&& (1431655765 : Int32))) >>> (Int32.toUInt32 (2 : Int32) &&& Int32.toUInt32 31)).toInt32) &&& (858993459 : Int32))) >>> (Int32.toUInt32 (4 : Int32) &&& Int32.toUInt32 31)).toInt32)) &&& (252645135 : Int32)) + ((Int32.toUInt32 (((((x0 - (((Int32.toUInt32 x0 >>> (Int32.toUInt32 (1 : Int32) &&& Int32.toUInt32 31)).toInt32) &&& (1431655765 : Int32))) &&& (858993459 : Int32)) + (((Int32.toUInt32 (x0 - (((Int32.toUInt32 x0 >>> (Int32.toUInt32 (1 : Int32) &&& Int32.toUInt32 31)).toInt32) &&& (1431655765 : Int32))) >>> (Int32.toUInt32 (2 : Int32) &&& Int32.toUInt32 31)).toInt32) &&& (858993459 : Int32))) + ((Int32.toUInt32 (((x0 - (((Int32.toUInt32 x0 >>> (Int32.toUInt32 (1 : Int32) &&& Int32.toUInt32 31)).toInt32) &&& (1431655765 : Int32))) &&& (858993459 : Int32)) + (((Int32.toUInt32 (x0 - (((Int32.toUInt32 x0 >>> (Int32.toUInt32 (1 : Int32) &&& Int32.toUInt32 31)).toInt32) &&& (1431655765 : Int32))) >>> (Int32.toUInt32 (2 : Int32) &&& Int32.toUInt32 31)).toInt32) &&& (858993459 : Int32))) >>> (Int32.toUInt32 (4 : Int32) &&& Int32.toUInt32 31)).toInt32)) &&& (252645135 : Int32)) >>> (Int32.toUInt32 (8 : Int32) &&& Int32.toUInt32 31)).toInt32)) >>> (Int32.toUInt32 (16 : Int32) &&& Int32.toUInt32 31)).toInt32)))]) (st' := [.int ((((((((x0 - (((Int32.toUInt32 x0 >>> (Int32.toUInt32 (1 : Int32) &&& Int32.toUInt32 31)).toInt32) &&& (1431655765 : Int32))) &&& (858993459 : Int32)) + (((Int32.toUInt32 (x0 - (((Int32.toUInt32 x0 >>> (Int32.toUInt32 (1 : Int32) &&& Int32.toUInt32 31)).toInt32) &&& (1431655765 : Int32))) >>> (Int32.toUInt32 (2 : Int32) &&& Int32.toUInt32 31)).toInt32) &&& (858993459 : Int32))) + ((Int32.toUInt32 (((x0 - (((Int32.toUInt32 x0 >>> (Int32.toUInt32 (1 : Int32) &&& Int32.toUInt32 31)).toInt32) &&& (1431655765 : Int32))) &&& (858993459 : Int32)) + (((Int32.toUInt32 (x0 - (((Int32.toUInt32 x0 >>> (Int32.toUInt32 (1 : Int32) &&& Int32.toUInt32 31)).toInt32) &&& (1431655765 : Int32))) >>> (Int32.toUInt32 (2 : Int32) &&& Int32.toUInt32 31)).toInt32) &&& (858993459 : Int32))) >>> (Int32.toUInt32 (4 : Int32) &&& Int32.toUInt32 31)).toInt32)) &&& (252645135 : Int32)) + ((Int32.toUInt32 (((((x0 - (((Int32.toUInt32 x0 >>> (Int32.toUInt32 (1 : Int32) &&& Int32.toUInt32 31)).toInt32) &&& (1431655765 : Int32))) &&& (858993459 : Int32)) + (((Int32.toUInt32 (x0 - (((Int32.toUInt32 x0 >>> (Int32.toUInt32 (1 : Int32) &&& Int32.toUInt32 31)).toInt32) &&& (1431655765 : Int32))) >>> (Int32.toUInt32 (2 : Int32) &&& Int32.toUInt32 31)).toInt32) &&& (858993459 : Int32))) + ((Int32.toUInt32 (((x0 - (((Int32.toUInt32 x0 >>> (Int32.toUInt32 (1 : Int32) &&& Int32.toUInt32 31)).toInt32) &&& (1431655765 : Int32))) &&& (858993459 : Int32)) + (((Int32.toUInt32 (x0 - (((Int32.toUInt32 x0 >>> (Int32.toUInt32 (1 : Int32) &&& Int32.toUInt32 31)).toInt32) &&& (1431655765 : Int32))) >>> (Int32.toUInt32 (2 : Int32) &&& Int32.toUInt32 31)).toInt32) &&& (858993459 : Int32))) >>> (Int32.toUInt32 (4 : Int32) &&& Int32.toUInt32 31)).toInt32)) &&& (252645135 : Int32)) >>> (Int32.toUInt32 (8 : Int32) &&& Int32.toUInt32 31)).toInt32)) + ((Int32.toUInt32 ((((((x0 - (((Int32.toUInt32 x0 >>> (Int32.toUInt32 (1 : Int32) &&& Int32.toUInt32 31)).toInt32) &&& (1431655765 : Int32))) &&& (858993459 : Int32)) + (((Int32.toUInt32 (x0 - (((Int32.toUInt32 x0 >>> (Int32.toUInt32 (1 : Int32) &&& Int32.toUInt32 31)).toInt32) &&& (1431655765 : Int32))) >>> (Int32.toUInt32 (2 : Int32) &&& Int32.toUInt32 31)).toInt32) &&& (858993459 : Int32))) + ((Int32.toUInt32 (((x0 - (((Int32.toUInt32 x0 >>> (Int32.toUInt32 (1 : Int32) &&& Int32.toUInt32 31)).toInt32) &&& (1431655765 : Int32))) &&& (858993459 : Int32)) + (((Int32.toUInt32 (x0 - (((Int32.toUInt32 x0 >>> (Int32.toUInt32 (1 : Int32) &&& Int32.toUInt32 31)).toInt32) &&& (1431655765 : Int32))) >>> (Int32.toUInt32 (2 : Int32) &&& Int32.toUInt32 31)).toInt32) &&& (858993459 : Int32))) >>> (Int32.toUInt32 (4 : Int32) &&& Int32.toUInt32 31)).toInt32)) &&& (252645135 : Int32)) + ((Int32.toUInt32 (((((x0 - (((Int32.toUInt32 x0 >>> (Int32.toUInt32 (1 : Int32) &&& Int32.toUInt32 31)).toInt32) &&& (1431655765 : Int32))) &&& (858993459 : Int32)) + (((Int32.toUInt32 (x0 - (((Int32.toUInt32 x0 >>> (Int32.toUInt32 (1 : Int32) &&& Int32.toUInt32 31)).toInt32) &&& (1431655765 : Int32))) >>> (Int32.toUInt32 (2 : Int32) &&& Int32.toUInt32 31)).toInt32) &&& (858993459 : Int32))) + ((Int32.toUInt32 (((x0 - (((Int32.toUInt32 x0 >>> (Int32.toUInt32 (1 : Int32) &&& Int32.toUInt32 31)).toInt32) &&& (1431655765 : Int32))) &&& (858993459 : Int32)) + (((Int32.toUInt32 (x0 - (((Int32.toUInt32 x0 >>> (Int32.toUInt32 (1 : Int32) &&& Int32.toUInt32 31)).toInt32) &&& (1431655765 : Int32))) >>> (Int32.toUInt32 (2 : Int32) &&& Int32.toUInt32 31)).toInt32) &&& (858993459 : Int32))) >>> (Int32.toUInt32 (4 : Int32) &&& Int32.toUInt32 31)).toInt32)) &&& (252645135 : Int32)) >>> (Int32.toUInt32 (8 : Int32) &&& Int32.toUInt32 31)).toInt32)) >>> (Int32.toUInt32 (16 : Int32) &&& Int32.toUInt32 31)).toInt32)) &&& (63 : Int32))]) (h' := h) 41 rfl trivial ?_
  obtain rfl := Option.some.inj hf
  exact v_iret C0 cokJ6_bitCount_0f7a4 hr hlk rfl
-- BackByNoonOnMonday.tenTo(I)J
noncomputable def fX4_tenTo_4 (σ : q_St) (h : q_Hp) (x0 : Int32) (y1 : Int64) (x3 : Int32) : Option ((Int64 × Int32) ⊕ Int64) := (if x0 ≤ x3 then some (Sum.inr y1) else some (Sum.inl ((y1 * (10 : Int64)), (x3 + (1 : Int32)))))
noncomputable def fX4_tenTo (σ : q_St) (h : q_Hp) (x0 : Int32) : Option Int64 := (q_loop (fun s => fX4_tenTo_4 σ h x0 s.1 s.2) q_N ((1 : Int64), (0 : Int32))).bind fun o1 => some o1
def cdX4_tenTo : q_Cd := [(0, .lconst 1), (1, .lstore_n 1), (2, .iconst 0), (3, .istore_n 3), (4, .iload_n 3), (5, .iload_n 0), (6, .if_icmp .ge 15), (9, .lload_n 1), (10, .ldc2_w 391), (13, .lmul), (14, .lstore_n 1), (15, .iinc 3 1), (18, .goto (-14)), (21, .lload_n 1), (22, .lreturn)]
set_option maxRecDepth 100000 in
theorem cokX4_tenTo : q_cok cX4_tenTo cdX4_tenTo := by unfold q_cok; decide +kernel
set_option maxRecDepth 100000 in
set_option maxHeartbeats 4000000 in
theorem ctX4_tenTo {l : Launch} {D : va_G} {cy : Nat → Nat} {b0 : Nat} {σ : q_St} {h : q_Hp} (x0 : Int32) {r : Int64} (hf : fX4_tenTo σ h x0 = some r) : q_M l yX4_tenTo cX4_tenTo 4 (some .long) 0 0 0 0 D cy b0 σ h [.int x0] (some (.long r)) σ h := by
  unfold fX4_tenTo at hf
  refine q_enter (by decide) (Nat.le_of_ble_eq_true rfl) ?_
  intro p e s m args below meth c C0 hr hlk hnm
  replace C0 : VC p { frames := 0, cells := 0, slots := 0, locals := 0 } s m args meth c D cy b0 4 0 0 RX4 cX4_tenTo := C0
  have n4 : ∀ (o : Int64) (s1 : (Int64 × Int32)), q_loop (fun s => fX4_tenTo_4 σ h x0 s.1 s.2) q_N s1 = some o → V p l e { frames := 0, cells := 0, slots := 0, locals := 0 } s m args below meth c (MQ below (q_Qc D cy b0 (some (.long r)) σ h) args s 0 0 (fun q => b0 ≤ q)) D cy b0 4 0 0 0 0 σ h 21 [(1, .long o)] [] → V p l e { frames := 0, cells := 0, slots := 0, locals := 0 } s m args below meth c (MQ below (q_Qc D cy b0 (some (.long r)) σ h) args s 0 0 (fun q => b0 ≤ q)) D cy b0 4 0 0 0 0 σ h 4 [(0, .int x0), (1, .long s1.1), (3, .int s1.2)] [] := by
    intro o s1 ho kx1
    refine q_loop_V (P := fun s0 => V p l e { frames := 0, cells := 0, slots := 0, locals := 0 } s m args below meth c (MQ below (q_Qc D cy b0 (some (.long r)) σ h) args s 0 0 (fun q => b0 ≤ q)) D cy b0 4 0 0 0 0 σ h 4 [(0, .int x0), (1, .long s0.1), (3, .int s0.2)] []) (o := o) ?_ q_N s1 ho
    intro s2 z1 hf kb1 kr1
    obtain ⟨y1, x3⟩ := s2
    replace hf : fX4_tenTo_4 σ h x0 y1 x3 = some z1 := hf
    unfold fX4_tenTo_4 at hf
    show V p l e { frames := 0, cells := 0, slots := 0, locals := 0 } s m args below meth c (MQ below (q_Qc D cy b0 (some (.long r)) σ h) args s 0 0 (fun q => b0 ≤ q)) D cy b0 4 0 0 0 0 σ h 4 [(0, .int x0), (1, .long y1), (3, .int x3)] []
    refine v_run C0 tbX4 cokX4_tenTo (pc' := 6) (lv' := [(0, .int x0), (1, .long y1), (3, .int x3)]) (st' := [.int x0, .int x3]) (h' := h) 2 rfl trivial ?_
    refine v_icmp_ge C0 cokX4_tenTo rfl 21 (by decide) hf (fun _ hf => ?_) (fun _ hf => ?_)
    · obtain rfl := Option.some.inj hf
      refine v_pick [1] rfl ?_
      have hx := kr1 _ rfl
      subst hx
      exact kx1
    · refine v_run C0 tbX4 cokX4_tenTo (pc' := 4) (lv' := [(3, .int (x3 + (1 : Int32))), (1, .long (y1 * (10 : Int64))), (0, .int x0)]) (st' := []) (h' := h) 6 rfl trivial ?_
      obtain rfl := Option.some.inj hf
      refine v_pick [2, 1, 0] rfl ?_
      exact kb1 _ rfl
  refine v_run C0 tbX4 cokX4_tenTo (pc' := 4) (lv' := [(3, .int (0 : Int32)), (1, .long (1 : Int64)), (0, .int x0)]) (st' := []) (h' := h) 4 rfl trivial ?_
  obtain ⟨o1, eo1, hf⟩ := q_bd hf
  refine v_pick [2, 1, 0] rfl ?_
  refine n4 o1 ((1 : Int64), (0 : Int32)) eo1 ?_
  refine v_run C0 tbX4 cokX4_tenTo (pc' := 22) (lv' := [(1, .long o1)]) (st' := [.long o1]) (h' := h) 1 rfl trivial ?_
  obtain rfl := Option.some.inj hf
  exact v_lret C0 cokX4_tenTo hr hlk rfl
-- BackByNoonOnMonday.commonDivisor(JJ)J
noncomputable def fX4_commonDivisor_9 (σ : q_St) (h : q_Hp) (y0 : Int64) (y2 : Int64) (y4 : Int64) (y6 : Int64) (x8 : Int32) : Option ((Int64 × Int64 × Int32) ⊕ Int64) := (if (130 : Int32) ≤ x8 then some (Sum.inr y4) else (if (lg_cmp y6 (0 : Int64)) ≤ 0 then some (Sum.inr y4) else q_gu ((¬ y6 = 0)) (some (Sum.inl (y6, (y4 - y4 / y6 * y6), (x8 + (1 : Int32)))))))
noncomputable def fX4_commonDivisor (σ : q_St) (h : q_Hp) (y0 : Int64) (y2 : Int64) : Option Int64 := (q_loop (fun s => fX4_commonDivisor_9 σ h y0 y2 s.1 s.2.1 s.2.2) q_N (y0, y2, (0 : Int32))).bind fun o1 => some o1
def cdX4_commonDivisor : q_Cd := [(0, .lload_n 0), (1, .lstore 4), (3, .lload_n 2), (4, .lstore 6), (6, .iconst 0), (7, .istore 8), (9, .iload 8), (11, .sipush 130), (14, .if_icmp .ge 31), (17, .lload 6), (19, .lconst 0), (20, .lcmp), (21, .ifCond .le 24), (24, .lload 4), (26, .lload 6), (28, .lrem), (29, .lstore 9), (31, .lload 6), (33, .lstore 4), (35, .lload 9), (37, .lstore 6), (39, .iinc 8 1), (42, .goto (-33)), (45, .lload 4), (47, .lreturn)]
set_option maxRecDepth 100000 in
theorem cokX4_commonDivisor : q_cok cX4_commonDivisor cdX4_commonDivisor := by unfold q_cok; decide +kernel
set_option maxRecDepth 100000 in
set_option maxHeartbeats 4000000 in
theorem ctX4_commonDivisor {l : Launch} {D : va_G} {cy : Nat → Nat} {b0 : Nat} {σ : q_St} {h : q_Hp} (y0 : Int64) (y2 : Int64) {r : Int64} (hf : fX4_commonDivisor σ h y0 y2 = some r) : q_M l yX4_commonDivisor cX4_commonDivisor 11 (some .long) 0 0 0 0 D cy b0 σ h [.long y0, .long y2] (some (.long r)) σ h := by
  unfold fX4_commonDivisor at hf
  refine q_enter (by decide) (Nat.le_of_ble_eq_true rfl) ?_
  intro p e s m args below meth c C0 hr hlk hnm
  replace C0 : VC p { frames := 0, cells := 0, slots := 0, locals := 0 } s m args meth c D cy b0 11 0 0 RX4 cX4_commonDivisor := C0
  have n9 : ∀ (o : Int64) (s1 : (Int64 × Int64 × Int32)), q_loop (fun s => fX4_commonDivisor_9 σ h y0 y2 s.1 s.2.1 s.2.2) q_N s1 = some o → V p l e { frames := 0, cells := 0, slots := 0, locals := 0 } s m args below meth c (MQ below (q_Qc D cy b0 (some (.long r)) σ h) args s 0 0 (fun q => b0 ≤ q)) D cy b0 11 0 0 0 0 σ h 45 [(4, .long o)] [] → V p l e { frames := 0, cells := 0, slots := 0, locals := 0 } s m args below meth c (MQ below (q_Qc D cy b0 (some (.long r)) σ h) args s 0 0 (fun q => b0 ≤ q)) D cy b0 11 0 0 0 0 σ h 9 [(4, .long s1.1), (6, .long s1.2.1), (8, .int s1.2.2)] [] := by
    intro o s1 ho kx1
    refine q_loop_V (P := fun s0 => V p l e { frames := 0, cells := 0, slots := 0, locals := 0 } s m args below meth c (MQ below (q_Qc D cy b0 (some (.long r)) σ h) args s 0 0 (fun q => b0 ≤ q)) D cy b0 11 0 0 0 0 σ h 9 [(4, .long s0.1), (6, .long s0.2.1), (8, .int s0.2.2)] []) (o := o) ?_ q_N s1 ho
    intro s2 z1 hf kb1 kr1
    obtain ⟨y4, y6, x8⟩ := s2
    replace hf : fX4_commonDivisor_9 σ h y0 y2 y4 y6 x8 = some z1 := hf
    unfold fX4_commonDivisor_9 at hf
    show V p l e { frames := 0, cells := 0, slots := 0, locals := 0 } s m args below meth c (MQ below (q_Qc D cy b0 (some (.long r)) σ h) args s 0 0 (fun q => b0 ≤ q)) D cy b0 11 0 0 0 0 σ h 9 [(4, .long y4), (6, .long y6), (8, .int x8)] []
    refine v_run C0 tbX4 cokX4_commonDivisor (pc' := 14) (lv' := [(4, .long y4), (6, .long y6), (8, .int x8)]) (st' := [.int (130 : Int32), .int x8]) (h' := h) 2 rfl trivial ?_
    refine v_icmp_ge C0 cokX4_commonDivisor rfl 45 (by decide) hf (fun _ hf => ?_) (fun _ hf => ?_)
    · obtain rfl := Option.some.inj hf
      refine v_pick [0] rfl ?_
      have hx := kr1 _ rfl
      subst hx
      exact kx1
    · refine v_run C0 tbX4 cokX4_commonDivisor (pc' := 21) (lv' := [(4, .long y4), (6, .long y6), (8, .int x8)]) (st' := [.int (lg_cmp y6 (0 : Int64))]) (h' := h) 3 rfl trivial ?_
      refine v_if_le C0 cokX4_commonDivisor rfl 45 (by decide) hf (fun _ hf => ?_) (fun _ hf => ?_)
      · obtain rfl := Option.some.inj hf
        refine v_pick [0] rfl ?_
        have hx := kr1 _ rfl
        subst hx
        exact kx1
      · obtain ⟨g2, hf⟩ := q_gu_o hf
        refine v_run C0 tbX4 cokX4_commonDivisor (pc' := 9) (lv' := [(8, .int (x8 + (1 : Int32))), (6, .long (y4 - y4 / y6 * y6)), (4, .long y6), (9, .long (y4 - y4 / y6 * y6))]) (st' := []) (h' := h) 10 rfl ⟨g2, trivial⟩ ?_
        obtain rfl := Option.some.inj hf
        refine v_pick [2, 1, 0] rfl ?_
        exact kb1 _ rfl
  refine v_run C0 tbX4 cokX4_commonDivisor (pc' := 9) (lv' := [(8, .int (0 : Int32)), (6, .long y2), (4, .long y0), (0, .long y0), (2, .long y2)]) (st' := []) (h' := h) 6 rfl trivial ?_
  obtain ⟨o1, eo1, hf⟩ := q_bd hf
  refine v_pick [2, 1, 0] rfl ?_
  refine n9 o1 (y0, y2, (0 : Int32)) eo1 ?_
  refine v_run C0 tbX4 cokX4_commonDivisor (pc' := 47) (lv' := [(4, .long o1)]) (st' := [.long o1]) (h' := h) 1 rfl trivial ?_
  obtain rfl := Option.some.inj hf
  exact v_lret C0 cokX4_commonDivisor hr hlk rfl
-- BackByNoonOnMonday.partOf(JJI)J
noncomputable def fX4_partOf_17 (σ : q_St) (h : q_Hp) (y0 : Int64) (y2 : Int64) (x4 : Int32) (y5 : Int64) (s0 : Int64) : Option Int64 := (if (lg_cmp y5 (0 : Int64)) ≤ 0 then some s0 else q_gu ((¬ y5 = 0)) (some (s0 / y5)))
noncomputable def fX4_partOf (σ : q_St) (h : q_Hp) (y0 : Int64) (y2 : Int64) (x4 : Int32) : Option Int64 := ((fX4_commonDivisor σ h y0 y2).bind fun r1 => (if x4 = 0 then fX4_partOf_17 σ h y0 y2 x4 r1 y0 else fX4_partOf_17 σ h y0 y2 x4 r1 y2))
def cdX4_partOf : q_Cd := [(0, .lload_n 0), (1, .lload_n 2), (2, .invokestatic 387), (5, .lstore 5), (7, .iload 4), (9, .ifCond .ne 7), (12, .lload_n 0), (13, .goto 4), (16, .lload_n 2), (17, .lstore 7), (19, .lload 5), (21, .lconst 0), (22, .lcmp), (23, .ifCond .le 11), (26, .lload 7), (28, .lload 5), (30, .ldiv), (31, .goto 5), (34, .lload 7), (36, .lreturn)]
set_option maxRecDepth 100000 in
theorem cokX4_partOf : q_cok cX4_partOf cdX4_partOf := by unfold q_cok; decide +kernel
set_option maxRecDepth 100000 in
set_option maxHeartbeats 4000000 in
theorem ctX4_partOf {l : Launch} {D : va_G} {cy : Nat → Nat} {b0 : Nat} {σ : q_St} {h : q_Hp} (y0 : Int64) (y2 : Int64) (x4 : Int32) {r : Int64} (hf : fX4_partOf σ h y0 y2 x4 = some r) : q_M l yX4_partOf cX4_partOf 9 (some .long) 1 30 0 0 D cy b0 σ h [.long y0, .long y2, .int x4] (some (.long r)) σ h := by
  unfold fX4_partOf at hf
  refine q_enter (by decide) (Nat.le_of_ble_eq_true rfl) ?_
  intro p e s m args below meth c C0 hr hlk hnm
  replace C0 : VC p { frames := 1, cells := 0, slots := 0, locals := 30 } s m args meth c D cy b0 9 0 0 RX4 cX4_partOf := C0
  have n17 : ∀ (y5 : Int64) (s0 : Int64), fX4_partOf_17 σ h y0 y2 x4 y5 s0 = some r → V p l e { frames := 1, cells := 0, slots := 0, locals := 30 } s m args below meth c (MQ below (q_Qc D cy b0 (some (.long r)) σ h) args s 0 0 (fun q => b0 ≤ q)) D cy b0 9 0 0 0 0 σ h 17 [(5, .long y5)] [.long s0] := by
    intro y5 s0 hf
    unfold fX4_partOf_17 at hf
    refine v_run C0 tbX4 cokX4_partOf (pc' := 23) (lv' := [(7, .long s0), (5, .long y5)]) (st' := [.int (lg_cmp y5 (0 : Int64))]) (h' := h) 4 rfl trivial ?_
    refine v_if_le C0 cokX4_partOf rfl 34 (by decide) hf (fun _ hf => ?_) (fun _ hf => ?_)
    · refine v_run C0 tbX4 cokX4_partOf (pc' := 36) (lv' := [(7, .long s0), (5, .long y5)]) (st' := [.long s0]) (h' := h) 1 rfl trivial ?_
      obtain rfl := Option.some.inj hf
      exact v_lret C0 cokX4_partOf hr hlk rfl
    · obtain ⟨g2, hf⟩ := q_gu_o hf
      refine v_run C0 tbX4 cokX4_partOf (pc' := 36) (lv' := [(7, .long s0), (5, .long y5)]) (st' := [.long (s0 / y5)]) (h' := h) 4 rfl ⟨g2, trivial⟩ ?_
      obtain rfl := Option.some.inj hf
      exact v_lret C0 cokX4_partOf hr hlk rfl
  refine v_run C0 tbX4 cokX4_partOf (pc' := 2) (lv' := [(0, .long y0), (2, .long y2), (4, .int x4)]) (st' := [.long y2, .long y0]) (h' := h) 2 rfl trivial ?_
  obtain ⟨r1, e1, hf⟩ := q_bd hf
  refine v_callS C0 cokX4_partOf rfl (rest := []) (ctX4_commonDivisor y0 y2 e1) calX4_commonDivisor lkX4_387 inX4_commonDivisor dnX4_commonDivisor rfl rfl ⟨by decide, by decide⟩ (Nat.le_of_ble_eq_true rfl) (Nat.le_refl _) (Nat.le_refl _) ?_
  refine v_run C0 tbX4 cokX4_partOf (pc' := 9) (lv' := [(5, .long r1), (0, .long y0), (2, .long y2), (4, .int x4)]) (st' := [.int x4]) (h' := h) 2 rfl trivial ?_
  refine v_if_ne C0 cokX4_partOf rfl 16 (by decide) hf (fun _ hf => ?_) (fun _ hf => ?_)
  · refine v_run C0 tbX4 cokX4_partOf (pc' := 17) (lv' := [(5, .long r1), (0, .long y0), (2, .long y2), (4, .int x4)]) (st' := [.long y0]) (h' := h) 2 rfl trivial ?_
    refine v_pick [0] rfl ?_
    exact n17 r1 y0 hf
  · refine v_run C0 tbX4 cokX4_partOf (pc' := 17) (lv' := [(5, .long r1), (0, .long y0), (2, .long y2), (4, .int x4)]) (st' := [.long y2]) (h' := h) 1 rfl trivial ?_
    refine v_pick [0] rfl ?_
    exact n17 r1 y2 hf
