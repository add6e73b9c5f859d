-- BackByNoonOnMonday$Shop.addSuit(LBackByNoonOnMonday$Suit;II)I
noncomputable def fX2_addSuit (σ : q_St) (h : q_Hp) (a0 : Nat) (a1 : Nat) (x2 : Int32) (x3 : Int32) : Option (Int32 × q_St × q_Hp) := (if (q_int h a0 11) < 0 then some ((-2 : Int32), σ, h) else q_gu ((q_tag σ (q_ref σ a0 0) = 10)) ((if (q_int h a0 11) < (Int32.ofNat (q_len σ (q_ref σ a0 0))) then q_gu ((vp_in (q_int h a0 11) (q_len σ (q_ref σ a0 0)))) (q_gu ((q_tag σ (q_ref (q_sr σ (q_ref σ a0 0) (Int32.toNatClampNeg (q_int h a0 11)) a1) a0 1) = 7)) (((fX4_set (q_sr σ (q_ref σ a0 0) (Int32.toNatClampNeg (q_int h a0 11)) a1) h (q_ref (q_sr σ (q_ref σ a0 0) (Int32.toNatClampNeg (q_int h a0 11)) a1) a0 1) (q_int h a0 11) x2).bind fun h4 => q_gu ((q_tag σ (q_ref (q_sr σ (q_ref σ a0 0) (Int32.toNatClampNeg (q_int h a0 11)) a1) a0 2) = 7)) (((fX4_set (q_sr σ (q_ref σ a0 0) (Int32.toNatClampNeg (q_int h a0 11)) a1) h4 (q_ref (q_sr σ (q_ref σ a0 0) (Int32.toNatClampNeg (q_int h a0 11)) a1) a0 2) (q_int h a0 11) x3).bind fun h6 => q_gu ((q_tag σ (q_ref (q_sr σ (q_ref σ a0 0) (Int32.toNatClampNeg (q_int h a0 11)) a1) a0 3) = 7)) (((fX4_set (q_sr σ (q_ref σ a0 0) (Int32.toNatClampNeg (q_int h a0 11)) a1) h6 (q_ref (q_sr σ (q_ref σ a0 0) (Int32.toNatClampNeg (q_int h a0 11)) a1) a0 3) (q_int h a0 11) (0 : Int32)).bind fun h8 => some ((q_int h a0 11), (q_sr σ (q_ref σ a0 0) (Int32.toNatClampNeg (q_int h a0 11)) a1), (q_si h8 a0 11 ((q_int h8 a0 11) + (1 : Int32))))))))))) else some ((-2 : Int32), σ, h))))
def cdX2_addSuit : q_Cd := [(0, .aload_n 0), (1, .getfield 52), (4, .istore 4), (6, .iload 4), (8, .ifCond .lt 13), (11, .iload 4), (13, .aload_n 0), (14, .getfield 11), (17, .arraylength), (18, .if_icmp .lt 6), (21, .bipush (-2)), (23, .ireturn), (24, .aload_n 0), (25, .getfield 11), (28, .iload 4), (30, .aload_n 1), (31, .aastore), (32, .aload_n 0), (33, .getfield 17), (36, .iload 4), (38, .iload_n 2), (39, .invokestatic 77), (42, .aload_n 0), (43, .getfield 21), (46, .iload 4), (48, .iload_n 3), (49, .invokestatic 77), (52, .aload_n 0), (53, .getfield 24), (56, .iload 4), (58, .iconst 0), (59, .invokestatic 77), (62, .aload_n 0), (63, .dup), (64, .getfield 52), (67, .iconst 1), (68, .iadd), (69, .putfield 52), (72, .iload 4), (74, .ireturn)]
set_option maxRecDepth 100000 in
theorem cokX2_addSuit : q_cok cX2_addSuit cdX2_addSuit := by unfold q_cok; decide +kernel
set_option maxRecDepth 100000 in
set_option maxHeartbeats 4000000 in
theorem ctX2_addSuit {l : Launch} {D : va_G} {cy : Nat → Nat} {b0 : Nat} {σ : q_St} {h : q_Hp} (a0 : Nat) (a1 : Nat) (x2 : Int32) (x3 : Int32) {r : Int32} {σ' : q_St} {h' : q_Hp} (ta0 : q_tag σ a0 = 3) (ta1 : q_tag σ a1 = 4) (hf : fX2_addSuit σ h a0 a1 x2 x3 = some (r, σ', h')) : q_M l yX2_addSuit cX2_addSuit 5 (some .int) 1 22 0 0 D cy b0 σ h [.ref a0, .ref a1, .int x2, .int x3] (some (.int r)) σ' h' := by
  unfold fX2_addSuit at hf
  refine q_enter (by decide) (Nat.le_of_ble_eq_true rfl) ?_
  intro p e s m args below meth c C0 hr hlk hnm
  replace C0 : VC p { frames := 1, cells := 0, slots := 0, locals := 22 } s m args meth c D cy b0 5 0 0 RX2 cX2_addSuit := C0
  refine v_run C0 tbX2 cokX2_addSuit (pc' := 8) (lv' := [(4, .int (q_int h a0 11)), (0, .ref a0), (1, .ref a1), (2, .int x2), (3, .int x3)]) (st' := [.int (q_int h a0 11)]) (h' := h) 4 rfl ⟨ta0, trivial⟩ ?_
  refine v_if_lt C0 cokX2_addSuit rfl 21 (by decide) hf (fun _ hf => ?_) (fun _ hf => ?_)
  · refine v_run C0 tbX2 cokX2_addSuit (pc' := 23) (lv' := [(4, .int (q_int h a0 11)), (0, .ref a0), (1, .ref a1), (2, .int x2), (3, .int x3)]) (st' := [.int (-2 : Int32)]) (h' := h) 1 rfl trivial ?_
    obtain ⟨hq1, hq2⟩ := Prod.mk.inj (Option.some.inj hf)
    obtain ⟨hq3, hq4⟩ := Prod.mk.inj hq2
    subst hq1
    subst hq3
    subst hq4
    exact v_iret C0 cokX2_addSuit hr hlk rfl
  · obtain ⟨g1, hf⟩ := q_gu_o hf
    refine v_run C0 tbX2 cokX2_addSuit (pc' := 18) (lv' := [(4, .int (q_int h a0 11)), (0, .ref a0), (1, .ref a1), (2, .int x2), (3, .int x3)]) (st' := [.int (Int32.ofNat (q_len σ (q_ref σ a0 0))), .int (q_int h a0 11)]) (h' := h) 4 rfl ⟨⟨ta0, q_tn g1⟩, (Or.inr (Or.inr (Or.inr g1))), trivial⟩ ?_
    refine v_icmp_lt C0 cokX2_addSuit rfl 24 (by decide) hf (fun _ hf => ?_) (fun _ hf => ?_)
    · refine v_run C0 tbX2 cokX2_addSuit (pc' := 31) (lv' := [(4, .int (q_int h a0 11)), (0, .ref a0), (1, .ref a1), (2, .int x2), (3, .int x3)]) (st' := [.ref a1, .int (q_int h a0 11), .ref (q_ref σ a0 0)]) (h' := h) 4 rfl ⟨⟨ta0, q_tn g1⟩, trivial⟩ ?_
      obtain ⟨g2, hf⟩ := q_gu_o hf
      refine v_aast C0 cokX2_addSuit rfl (Or.inr ⟨g1, ta1⟩) g2 ?_
      obtain ⟨g3, hf⟩ := q_gu_o hf
      refine v_run C0 tbX2 cokX2_addSuit (pc' := 39) (lv' := [(4, .int (q_int h a0 11)), (0, .ref a0), (1, .ref a1), (2, .int x2), (3, .int x3)]) (st' := [.int x2, .int (q_int h a0 11), .ref (q_ref (q_sr σ (q_ref σ a0 0) (Int32.toNatClampNeg (q_int h a0 11)) a1) a0 1)]) (h' := h) 4 rfl ⟨⟨ta0, q_tn g3⟩, trivial⟩ ?_
      obtain ⟨h4, e4, hf⟩ := q_bd hf
      refine v_callSN C0 cokX2_addSuit rfl (rest := []) (ctX4_set (q_ref (q_sr σ (q_ref σ a0 0) (Int32.toNatClampNeg (q_int h a0 11)) a1) a0 1) (q_int h a0 11) x2 g3 e4) calX4_set lkX2_77 inX4_set dnX4_set rfl rfl ⟨by decide, by decide⟩ (Nat.le_of_ble_eq_true rfl) (Nat.le_refl _) (Nat.le_refl _) ?_
      obtain ⟨g5, hf⟩ := q_gu_o hf
      refine v_run C0 tbX2 cokX2_addSuit (pc' := 49) (lv' := [(4, .int (q_int h a0 11)), (0, .ref a0), (1, .ref a1), (2, .int x2), (3, .int x3)]) (st' := [.int x3, .int (q_int h a0 11), .ref (q_ref (q_sr σ (q_ref σ a0 0) (Int32.toNatClampNeg (q_int h a0 11)) a1) a0 2)]) (h' := h4) 4 rfl ⟨⟨ta0, q_tn g5⟩, trivial⟩ ?_
      obtain ⟨h6, e6, hf⟩ := q_bd hf
      refine v_callSN C0 cokX2_addSuit rfl (rest := []) (ctX4_set (q_ref (q_sr σ (q_ref σ a0 0) (Int32.toNatClampNeg (q_int h a0 11)) a1) a0 2) (q_int h a0 11) x3 g5 e6) calX4_set lkX2_77 inX4_set dnX4_set rfl rfl ⟨by decide, by decide⟩ (Nat.le_of_ble_eq_true rfl) (Nat.le_refl _) (Nat.le_refl _) ?_
      obtain ⟨g7, hf⟩ := q_gu_o hf
      refine v_run C0 tbX2 cokX2_addSuit (pc' := 59) (lv' := [(4, .int (q_int h a0 11)), (0, .ref a0), (1, .ref a1), (2, .int x2), (3, .int x3)]) (st' := [.int (0 : Int32), .int (q_int h a0 11), .ref (q_ref (q_sr σ (q_ref σ a0 0) (Int32.toNatClampNeg (q_int h a0 11)) a1) a0 3)]) (h' := h6) 4 rfl ⟨⟨ta0, q_tn g7⟩, trivial⟩ ?_
      obtain ⟨h8, e8, hf⟩ := q_bd hf
      refine v_callSN C0 cokX2_addSuit rfl (rest := []) (ctX4_set (q_ref (q_sr σ (q_ref σ a0 0) (Int32.toNatClampNeg (q_int h a0 11)) a1) a0 3) (q_int h a0 11) (0 : Int32) g7 e8) calX4_set lkX2_77 inX4_set dnX4_set rfl rfl ⟨by decide, by decide⟩ (Nat.le_of_ble_eq_true rfl) (Nat.le_refl _) (Nat.le_refl _) ?_
      refine v_run C0 tbX2 cokX2_addSuit (pc' := 74) (lv' := [(4, .int (q_int h a0 11)), (0, .ref a0), (1, .ref a1), (2, .int x2), (3, .int x3)]) (st' := [.int (q_int h a0 11)]) (h' := (q_si h8 a0 11 ((q_int h8 a0 11) + (1 : Int32)))) 7 rfl ⟨ta0, ta0, trivial⟩ ?_
      obtain ⟨hq1, hq2⟩ := Prod.mk.inj (Option.some.inj hf)
      obtain ⟨hq3, hq4⟩ := Prod.mk.inj hq2
      subst hq1
      subst hq3
      subst hq4
      exact v_iret C0 cokX2_addSuit hr hlk rfl
    · refine v_run C0 tbX2 cokX2_addSuit (pc' := 23) (lv' := [(4, .int (q_int h a0 11)), (0, .ref a0), (1, .ref a1), (2, .int x2), (3, .int x3)]) (st' := [.int (-2 : Int32)]) (h' := h) 1 rfl trivial ?_
      obtain ⟨hq1, hq2⟩ := Prod.mk.inj (Option.some.inj hf)
      obtain ⟨hq3, hq4⟩ := Prod.mk.inj hq2
      subst hq1
      subst hq3
      subst hq4
      exact v_iret C0 cokX2_addSuit hr hlk rfl
-- BackByNoonOnMonday$Shop.addBooking(III)I
noncomputable def fX2_addBooking (σ : q_St) (h : q_Hp) (a0 : Nat) (x1 : Int32) (x2 : Int32) (x3 : Int32) : Option (Int32 × q_Hp) := q_gu ((q_tag σ (q_ref σ a0 4) = 7) ∧ (q_tag σ (q_ref σ a0 5) = 7) ∧ (q_tag σ (q_ref σ a0 6) = 7) ∧ (q_tag σ (q_ref σ a0 7) = 7) ∧ (q_tag σ (q_ref σ a0 8) = 7) ∧ (q_tag σ (q_ref σ a0 9) = 7)) ((if (q_int h a0 12) < (7 : Int32) then ((fX4_set σ h (q_ref σ a0 4) (q_int h a0 12) x1).bind fun h1 => ((fX4_set σ h1 (q_ref σ a0 5) (q_int h a0 12) x2).bind fun h2 => ((fX4_set σ h2 (q_ref σ a0 6) (q_int h a0 12) (x3 / (100 : Int32))).bind fun h3 => ((fX4_set σ h3 (q_ref σ a0 7) (q_int h a0 12) ((x3 / (10 : Int32)) - (x3 / (10 : Int32)) / (10 : Int32) * (10 : Int32))).bind fun h4 => ((fX4_set σ h4 (q_ref σ a0 8) (q_int h a0 12) (x3 - x3 / (10 : Int32) * (10 : Int32))).bind fun h5 => ((fX4_set σ h5 (q_ref σ a0 9) (q_int h a0 12) (9 : Int32)).bind fun h6 => some ((q_int h a0 12), (q_si h6 a0 12 ((q_int h6 a0 12) + (1 : Int32)))))))))) else some ((-2 : Int32), h)))
def cdX2_addBooking : q_Cd := [(0, .aload_n 0), (1, .getfield 56), (4, .istore 4), (6, .iload 4), (8, .bipush 7), (10, .if_icmp .lt 6), (13, .bipush (-2)), (15, .ireturn), (16, .aload_n 0), (17, .getfield 27), (20, .iload 4), (22, .iload_n 1), (23, .invokestatic 77), (26, .aload_n 0), (27, .getfield 30), (30, .iload 4), (32, .iload_n 2), (33, .invokestatic 77), (36, .aload_n 0), (37, .getfield 33), (40, .iload 4), (42, .iload_n 3), (43, .bipush 100), (45, .idiv), (46, .invokestatic 77), (49, .aload_n 0), (50, .getfield 36), (53, .iload 4), (55, .iload_n 3), (56, .bipush 10), (58, .idiv), (59, .bipush 10), (61, .irem), (62, .invokestatic 77), (65, .aload_n 0), (66, .getfield 39), (69, .iload 4), (71, .iload_n 3), (72, .bipush 10), (74, .irem), (75, .invokestatic 77), (78, .aload_n 0), (79, .getfield 42), (82, .iload 4), (84, .bipush 9), (86, .invokestatic 77), (89, .aload_n 0), (90, .dup), (91, .getfield 56), (94, .iconst 1), (95, .iadd), (96, .putfield 56), (99, .iload 4), (101, .ireturn)]
set_option maxRecDepth 100000 in
theorem cokX2_addBooking : q_cok cX2_addBooking cdX2_addBooking := by unfold q_cok; decide +kernel
set_option maxRecDepth 100000 in
set_option maxHeartbeats 4000000 in
theorem ctX2_addBooking {l : Launch} {D : va_G} {cy : Nat → Nat} {b0 : Nat} {σ : q_St} {h : q_Hp} (a0 : Nat) (x1 : Int32) (x2 : Int32) (x3 : Int32) {r : Int32} {h' : q_Hp} (ta0 : q_tag σ a0 = 3) (hf : fX2_addBooking σ h a0 x1 x2 x3 = some (r, h')) : q_M l yX2_addBooking cX2_addBooking 5 (some .int) 1 22 0 0 D cy b0 σ h [.ref a0, .int x1, .int x2, .int x3] (some (.int r)) σ h' := by
  unfold fX2_addBooking at hf
  obtain ⟨⟨k0, k1, k2, k3, k4, k5⟩, hf⟩ := q_gu_o hf
  refine q_enter (by decide) (Nat.le_of_ble_eq_true rfl) ?_
  intro p e s m args below meth c C0 hr hlk hnm
  replace C0 : VC p { frames := 1, cells := 0, slots := 0, locals := 22 } s m args meth c D cy b0 5 0 0 RX2 cX2_addBooking := C0
  refine v_run C0 tbX2 cokX2_addBooking (pc' := 10) (lv' := [(4, .int (q_int h a0 12)), (0, .ref a0), (1, .int x1), (2, .int x2), (3, .int x3)]) (st' := [.int (7 : Int32), .int (q_int h a0 12)]) (h' := h) 5 rfl ⟨ta0, trivial⟩ ?_
  refine v_icmp_lt C0 cokX2_addBooking rfl 16 (by decide) hf (fun _ hf => ?_) (fun _ hf => ?_)
  · refine v_run C0 tbX2 cokX2_addBooking (pc' := 23) (lv' := [(4, .int (q_int h a0 12)), (0, .ref a0), (1, .int x1), (2, .int x2), (3, .int x3)]) (st' := [.int x1, .int (q_int h a0 12), .ref (q_ref σ a0 4)]) (h' := h) 4 rfl ⟨⟨ta0, q_tn k0⟩, trivial⟩ ?_
    obtain ⟨h1, e1, hf⟩ := q_bd hf
    refine v_callSN C0 cokX2_addBooking rfl (rest := []) (ctX4_set (q_ref σ a0 4) (q_int h a0 12) x1 k0 e1) calX4_set lkX2_77 inX4_set dnX4_set rfl rfl ⟨by decide, by decide⟩ (Nat.le_of_ble_eq_true rfl) (Nat.le_refl _) (Nat.le_refl _) ?_
    refine v_run C0 tbX2 cokX2_addBooking (pc' := 33) (lv' := [(4, .int (q_int h a0 12)), (0, .ref a0), (1, .int x1), (2, .int x2), (3, .int x3)]) (st' := [.int x2, .int (q_int h a0 12), .ref (q_ref σ a0 5)]) (h' := h1) 4 rfl ⟨⟨ta0, q_tn k1⟩, trivial⟩ ?_
    obtain ⟨h2, e2, hf⟩ := q_bd hf
    refine v_callSN C0 cokX2_addBooking rfl (rest := []) (ctX4_set (q_ref σ a0 5) (q_int h a0 12) x2 k1 e2) calX4_set lkX2_77 inX4_set dnX4_set rfl rfl ⟨by decide, by decide⟩ (Nat.le_of_ble_eq_true rfl) (Nat.le_refl _) (Nat.le_refl _) ?_
    refine v_run C0 tbX2 cokX2_addBooking (pc' := 46) (lv' := [(4, .int (q_int h a0 12)), (0, .ref a0), (1, .int x1), (2, .int x2), (3, .int x3)]) (st' := [.int (x3 / (100 : Int32)), .int (q_int h a0 12), .ref (q_ref σ a0 6)]) (h' := h2) 6 rfl ⟨⟨ta0, q_tn k2⟩, (by decide), trivial⟩ ?_
    obtain ⟨h3, e3, hf⟩ := q_bd hf
    refine v_callSN C0 cokX2_addBooking rfl (rest := []) (ctX4_set (q_ref σ a0 6) (q_int h a0 12) (x3 / (100 : Int32)) k2 e3) calX4_set lkX2_77 inX4_set dnX4_set rfl rfl ⟨by decide, by decide⟩ (Nat.le_of_ble_eq_true rfl) (Nat.le_refl _) (Nat.le_refl _) ?_
    refine v_run C0 tbX2 cokX2_addBooking (pc' := 62) (lv' := [(4, .int (q_int h a0 12)), (0, .ref a0), (1, .int x1), (2, .int x2), (3, .int x3)]) (st' := [.int ((x3 / (10 : Int32)) - (x3 / (10 : Int32)) / (10 : Int32) * (10 : Int32)), .int (q_int h a0 12), .ref (q_ref σ a0 7)]) (h' := h3) 8 rfl ⟨⟨ta0, q_tn k3⟩, (by decide), (by decide), trivial⟩ ?_
    obtain ⟨h4, e4, hf⟩ := q_bd hf
    refine v_callSN C0 cokX2_addBooking rfl (rest := []) (ctX4_set (q_ref σ a0 7) (q_int h a0 12) ((x3 / (10 : Int32)) - (x3 / (10 : Int32)) / (10 : Int32) * (10 : Int32)) k3 e4) calX4_set lkX2_77 inX4_set dnX4_set rfl rfl ⟨by decide, by decide⟩ (Nat.le_of_ble_eq_true rfl) (Nat.le_refl _) (Nat.le_refl _) ?_
    refine v_run C0 tbX2 cokX2_addBooking (pc' := 75) (lv' := [(4, .int (q_int h a0 12)), (0, .ref a0), (1, .int x1), (2, .int x2), (3, .int x3)]) (st' := [.int (x3 - x3 / (10 : Int32) * (10 : Int32)), .int (q_int h a0 12), .ref (q_ref σ a0 8)]) (h' := h4) 6 rfl ⟨⟨ta0, q_tn k4⟩, (by decide), trivial⟩ ?_
    obtain ⟨h5, e5, hf⟩ := q_bd hf
    refine v_callSN C0 cokX2_addBooking rfl (rest := []) (ctX4_set (q_ref σ a0 8) (q_int h a0 12) (x3 - x3 / (10 : Int32) * (10 : Int32)) k4 e5) calX4_set lkX2_77 inX4_set dnX4_set rfl rfl ⟨by decide, by decide⟩ (Nat.le_of_ble_eq_true rfl) (Nat.le_refl _) (Nat.le_refl _) ?_
    refine v_run C0 tbX2 cokX2_addBooking (pc' := 86) (lv' := [(4, .int (q_int h a0 12)), (0, .ref a0), (1, .int x1), (2, .int x2), (3, .int x3)]) (st' := [.int (9 : Int32), .int (q_int h a0 12), .ref (q_ref σ a0 9)]) (h' := h5) 4 rfl ⟨⟨ta0, q_tn k5⟩, trivial⟩ ?_
    obtain ⟨h6, e6, hf⟩ := q_bd hf
    refine v_callSN C0 cokX2_addBooking rfl (rest := []) (ctX4_set (q_ref σ a0 9) (q_int h a0 12) (9 : Int32) k5 e6) calX4_set lkX2_77 inX4_set dnX4_set rfl rfl ⟨by decide, by decide⟩ (Nat.le_of_ble_eq_true rfl) (Nat.le_refl _) (Nat.le_refl _) ?_
    refine v_run C0 tbX2 cokX2_addBooking (pc' := 101) (lv' := [(4, .int (q_int h a0 12)), (0, .ref a0), (1, .int x1), (2, .int x2), (3, .int x3)]) (st' := [.int (q_int h a0 12)]) (h' := (q_si h6 a0 12 ((q_int h6 a0 12) + (1 : Int32)))) 7 rfl ⟨ta0, ta0, trivial⟩ ?_
    obtain ⟨rfl, rfl⟩ := Prod.mk.inj (Option.some.inj hf)
    exact v_iret C0 cokX2_addBooking hr hlk rfl
  · refine v_run C0 tbX2 cokX2_addBooking (pc' := 15) (lv' := [(4, .int (q_int h a0 12)), (0, .ref a0), (1, .int x1), (2, .int x2), (3, .int x3)]) (st' := [.int (-2 : Int32)]) (h' := h) 1 rfl trivial ?_
    obtain ⟨rfl, rfl⟩ := Prod.mk.inj (Option.some.inj hf)
    exact v_iret C0 cokX2_addBooking hr hlk rfl
-- BackByNoonOnMonday$Shop.isRightFor(II)Z
noncomputable def fX2_isRightFor (σ : q_St) (h : q_Hp) (a0 : Nat) (x1 : Int32) (x2 : Int32) : Option Int32 := q_gu ((q_tag σ (q_ref σ a0 1) = 7) ∧ (q_tag σ (q_ref σ a0 4) = 7)) (((fX2_kindOf σ h a0 x1).bind fun r1 => ((fX4_at σ h (q_ref σ a0 1) x1).bind fun r2 => ((fX4_at σ h (q_ref σ a0 4) x2).bind fun r3 => q_gu ((q_tag σ r1 = 4)) (((fX2_reaches σ h a0 r1 r2 r3).bind fun r5 => q_gu ((r5 = 0 ∨ r5 = 1)) (some r5)))))))
def cdX2_isRightFor : q_Cd := [(0, .aload_n 0), (1, .aload_n 0), (2, .iload_n 1), (3, .invokevirtual 65), (6, .aload_n 0), (7, .getfield 17), (10, .iload_n 1), (11, .invokestatic 88), (14, .aload_n 0), (15, .getfield 27), (18, .iload_n 2), (19, .invokestatic 88), (22, .invokevirtual 109), (25, .ireturn)]
set_option maxRecDepth 100000 in
theorem cokX2_isRightFor : q_cok cX2_isRightFor cdX2_isRightFor := by unfold q_cok; decide +kernel
set_option maxRecDepth 100000 in
set_option maxHeartbeats 4000000 in
theorem ctX2_isRightFor {l : Launch} {D : va_G} {cy : Nat → Nat} {b0 : Nat} {σ : q_St} {h : q_Hp} (a0 : Nat) (x1 : Int32) (x2 : Int32) {r : Int32} (ta0 : q_tag σ a0 = 3) (hf : fX2_isRightFor σ h a0 x1 x2 = some r) : q_M l yX2_isRightFor cX2_isRightFor 3 (some .boolean) 1 23 0 0 D cy b0 σ h [.ref a0, .int x1, .int x2] (some (.int r)) σ h := by
  unfold fX2_isRightFor at hf
  obtain ⟨⟨k0, k1⟩, hf⟩ := q_gu_o hf
  refine q_enter (by decide) (Nat.le_of_ble_eq_true rfl) ?_
  intro p e s m args below meth c C0 hr hlk hnm
  replace C0 : VC p { frames := 1, cells := 0, slots := 0, locals := 23 } s m args meth c D cy b0 3 0 0 RX2 cX2_isRightFor := C0
  refine v_run C0 tbX2 cokX2_isRightFor (pc' := 3) (lv' := [(0, .ref a0), (1, .int x1), (2, .int x2)]) (st' := [.int x1, .ref a0, .ref a0]) (h' := h) 3 rfl trivial ?_
  obtain ⟨r1, e1, hf⟩ := q_bd hf
  refine v_callV C0 cokX2_isRightFor rfl (rest := [.ref a0]) (ctX2_kindOf a0 x1 ta0 e1) calX2_kindOf lkX2_65 inX2_kindOf dnX2_kindOf (ci := 2) ⟨rfl, by decide⟩ ta0 rfl rfl ⟨by decide, by decide⟩ (Nat.le_of_ble_eq_true rfl) (Nat.le_refl _) (Nat.le_refl _) ?_
  refine v_run C0 tbX2 cokX2_isRightFor (pc' := 11) (lv' := [(0, .ref a0), (1, .int x1), (2, .int x2)]) (st' := [.int x1, .ref (q_ref σ a0 1), .ref r1, .ref a0]) (h' := h) 3 rfl ⟨⟨ta0, q_tn k0⟩, trivial⟩ ?_
  obtain ⟨r2, e2, hf⟩ := q_bd hf
  refine v_callSN C0 cokX2_isRightFor rfl (rest := [.ref r1, .ref a0]) (ctX4_at (q_ref σ a0 1) x1 k0 e2) calX4_at lkX2_88 inX4_at dnX4_at rfl rfl ⟨by decide, by decide⟩ (Nat.le_of_ble_eq_true rfl) (Nat.le_refl _) (Nat.le_refl _) ?_
  refine v_run C0 tbX2 cokX2_isRightFor (pc' := 19) (lv' := [(0, .ref a0), (1, .int x1), (2, .int x2)]) (st' := [.int x2, .ref (q_ref σ a0 4), .int r2, .ref r1, .ref a0]) (h' := h) 3 rfl ⟨⟨ta0, q_tn k1⟩, trivial⟩ ?_
  obtain ⟨r3, e3, hf⟩ := q_bd hf
  refine v_callSN C0 cokX2_isRightFor rfl (rest := [.int r2, .ref r1, .ref a0]) (ctX4_at (q_ref σ a0 4) x2 k1 e3) calX4_at lkX2_88 inX4_at dnX4_at rfl rfl ⟨by decide, by decide⟩ (Nat.le_of_ble_eq_true rfl) (Nat.le_refl _) (Nat.le_refl _) ?_
  obtain ⟨g4, hf⟩ := q_gu_o hf
  obtain ⟨r5, e5, hf⟩ := q_bd hf
  refine v_callV C0 cokX2_isRightFor rfl (rest := []) (ctX2_reaches a0 r1 r2 r3 ta0 g4 e5) calX2_reaches lkX2_109 inX2_reaches dnX2_reaches (ci := 2) ⟨rfl, by decide⟩ ta0 rfl rfl ⟨by decide, by decide⟩ (Nat.le_of_ble_eq_true rfl) (Nat.le_refl _) (Nat.le_refl _) ?_
  obtain ⟨g6, hf⟩ := q_gu_o hf
  obtain rfl := Option.some.inj hf
  exact v_zret C0 cokX2_isRightFor hr hlk rfl g6
-- BackByNoonOnMonday$Shop.canHire(III)Z
noncomputable def fX2_canHire (σ : q_St) (h : q_Hp) (a0 : Nat) (x1 : Int32) (x2 : Int32) (x3 : Int32) : Option Int32 := q_gu ((q_tag σ (q_ref σ a0 3) = 7)) (((fX4_at σ h (q_ref σ a0 3) x1).bind fun r1 => (if r1 = 0 then ((fX2_isRightFor σ h a0 x1 x2).bind fun r2 => (if r2 = 0 then some (0 : Int32) else ((fX2_kindOf σ h a0 x1).bind fun r3 => q_gu ((q_tag σ r3 = 4)) ((if (9999 : Int32) < (x3 + (q_int h r3 2)) then some (0 : Int32) else some (1 : Int32)))))) else some (0 : Int32))))
def cdX2_canHire : q_Cd := [(0, .aload_n 0), (1, .getfield 24), (4, .iload_n 1), (5, .invokestatic 88), (8, .ifCond .ne 32), (11, .aload_n 0), (12, .iload_n 1), (13, .iload_n 2), (14, .invokevirtual 98), (17, .ifCond .eq 23), (20, .iload_n 3), (21, .aload_n 0), (22, .iload_n 1), (23, .invokevirtual 65), (26, .getfield 95), (29, .iadd), (30, .sipush 9999), (33, .if_icmp .gt 7), (36, .iconst 1), (37, .goto 4), (40, .iconst 0), (41, .ireturn)]
set_option maxRecDepth 100000 in
theorem cokX2_canHire : q_cok cX2_canHire cdX2_canHire := by unfold q_cok; decide +kernel
set_option maxRecDepth 100000 in
set_option maxHeartbeats 4000000 in
theorem ctX2_canHire {l : Launch} {D : va_G} {cy : Nat → Nat} {b0 : Nat} {σ : q_St} {h : q_Hp} (a0 : Nat) (x1 : Int32) (x2 : Int32) (x3 : Int32) {r : Int32} (ta0 : q_tag σ a0 = 3) (hf : fX2_canHire σ h a0 x1 x2 x3 = some r) : q_M l yX2_canHire cX2_canHire 4 (some .boolean) 2 45 0 0 D cy b0 σ h [.ref a0, .int x1, .int x2, .int x3] (some (.int r)) σ h := by
  unfold fX2_canHire at hf
  obtain ⟨k0, hf⟩ := q_gu_o hf
  refine q_enter (by decide) (Nat.le_of_ble_eq_true rfl) ?_
  intro p e s m args below meth c C0 hr hlk hnm
  replace C0 : VC p { frames := 2, cells := 0, slots := 0, locals := 45 } s m args meth c D cy b0 4 0 0 RX2 cX2_canHire := C0
  refine v_run C0 tbX2 cokX2_canHire (pc' := 5) (lv' := [(0, .ref a0), (1, .int x1), (2, .int x2), (3, .int x3)]) (st' := [.int x1, .ref (q_ref σ a0 3)]) (h' := h) 3 rfl ⟨⟨ta0, q_tn k0⟩, trivial⟩ ?_
  obtain ⟨r1, e1, hf⟩ := q_bd hf
  refine v_callSN C0 cokX2_canHire rfl (rest := []) (ctX4_at (q_ref σ a0 3) x1 k0 e1) calX4_at lkX2_88 inX4_at dnX4_at rfl rfl ⟨by decide, by decide⟩ (Nat.le_of_ble_eq_true rfl) (Nat.le_refl _) (Nat.le_refl _) ?_
  refine v_if_ne C0 cokX2_canHire rfl 40 (by decide) hf (fun _ hf => ?_) (fun _ hf => ?_)
  · refine v_run C0 tbX2 cokX2_canHire (pc' := 14) (lv' := [(0, .ref a0), (1, .int x1), (2, .int x2), (3, .int x3)]) (st' := [.int x2, .int x1, .ref a0]) (h' := h) 3 rfl trivial ?_
    obtain ⟨r2, e2, hf⟩ := q_bd hf
    refine v_callV C0 cokX2_canHire rfl (rest := []) (ctX2_isRightFor a0 x1 x2 ta0 e2) calX2_isRightFor lkX2_98 inX2_isRightFor dnX2_isRightFor (ci := 2) ⟨rfl, by decide⟩ ta0 rfl rfl ⟨by decide, by decide⟩ (Nat.le_of_ble_eq_true rfl) (Nat.le_refl _) (Nat.le_refl _) ?_
    refine v_if_eq C0 cokX2_canHire rfl 40 (by decide) hf (fun _ hf => ?_) (fun _ hf => ?_)
    · refine v_run C0 tbX2 cokX2_canHire (pc' := 41) (lv' := [(0, .ref a0), (1, .int x1), (2, .int x2), (3, .int x3)]) (st' := [.int (0 : Int32)]) (h' := h) 1 rfl trivial ?_
      obtain rfl := Option.some.inj hf
      exact v_zret C0 cokX2_canHire hr hlk rfl (Or.inl rfl)
    · refine v_run C0 tbX2 cokX2_canHire (pc' := 23) (lv' := [(0, .ref a0), (1, .int x1), (2, .int x2), (3, .int x3)]) (st' := [.int x1, .ref a0, .int x3]) (h' := h) 3 rfl trivial ?_
      obtain ⟨r3, e3, hf⟩ := q_bd hf
      refine v_callV C0 cokX2_canHire rfl (rest := [.int x3]) (ctX2_kindOf a0 x1 ta0 e3) calX2_kindOf lkX2_65 inX2_kindOf dnX2_kindOf (ci := 2) ⟨rfl, by decide⟩ ta0 rfl rfl ⟨by decide, by decide⟩ (Nat.le_of_ble_eq_true rfl) (Nat.le_refl _) (Nat.le_refl _) ?_
      obtain ⟨g4, hf⟩ := q_gu_o hf
      refine v_run C0 tbX2 cokX2_canHire (pc' := 33) (lv' := [(0, .ref a0), (1, .int x1), (2, .int x2), (3, .int x3)]) (st' := [.int (9999 : Int32), .int (x3 + (q_int h r3 2))]) (h' := h) 3 rfl ⟨g4, trivial⟩ ?_
      refine v_icmp_gt C0 cokX2_canHire rfl 40 (by decide) hf (fun _ hf => ?_) (fun _ hf => ?_)
      · refine v_run C0 tbX2 cokX2_canHire (pc' := 41) (lv' := [(0, .ref a0), (1, .int x1), (2, .int x2), (3, .int x3)]) (st' := [.int (0 : Int32)]) (h' := h) 1 rfl trivial ?_
        obtain rfl := Option.some.inj hf
        exact v_zret C0 cokX2_canHire hr hlk rfl (Or.inl rfl)
      · refine v_run C0 tbX2 cokX2_canHire (pc' := 41) (lv' := [(0, .ref a0), (1, .int x1), (2, .int x2), (3, .int x3)]) (st' := [.int (1 : Int32)]) (h' := h) 2 rfl trivial ?_
        obtain rfl := Option.some.inj hf
        exact v_zret C0 cokX2_canHire hr hlk rfl (Or.inr rfl)
  · refine v_run C0 tbX2 cokX2_canHire (pc' := 41) (lv' := [(0, .ref a0), (1, .int x1), (2, .int x2), (3, .int x3)]) (st' := [.int (0 : Int32)]) (h' := h) 1 rfl trivial ?_
    obtain rfl := Option.some.inj hf
    exact v_zret C0 cokX2_canHire hr hlk rfl (Or.inl rfl)
-- BackByNoonOnMonday$Shop.hire(II)I
noncomputable def fX2_hire_98 (σ : q_St) (h : q_Hp) (a0 : Nat) (x1 : Int32) (x2 : Int32) (s0 : Int32) (s1 : Int32) (s2 : Nat) : Option (Int32 × q_Hp) := q_gu ((q_tag σ s2 = 7)) (((fX4_set σ h s2 s1 s0).bind fun h10 => ((fX2_kindOf σ h10 a0 x1).bind fun r11 => q_gu ((q_tag σ r11 = 4)) (some ((q_int (q_si h10 a0 13 ((q_int h10 a0 13) + (q_int h10 r11 2))) a0 13), (q_si h10 a0 13 ((q_int h10 a0 13) + (q_int h10 r11 2))))))))
noncomputable def fX2_hire (σ : q_St) (h : q_Hp) (a0 : Nat) (x1 : Int32) (x2 : Int32) : Option (Int32 × q_Hp) := q_gu ((q_tag σ (q_ref σ a0 9) = 7) ∧ (q_tag σ (q_ref σ a0 3) = 7) ∧ (q_tag σ (q_ref σ a0 2) = 7)) (((fX2_isSuit σ h a0 x1).bind fun r1 => (if r1 = 0 then some ((-1 : Int32), h) else ((fX2_isBooking σ h a0 x2).bind fun r2 => (if r2 = 0 then some ((-1 : Int32), h) else ((fX4_at σ h (q_ref σ a0 9) x2).bind fun r3 => (if r3 = (9 : Int32) then ((fX2_canHire σ h a0 x1 x2 (q_int h a0 13)).bind fun r4 => (if r4 = 0 then some ((-3 : Int32), h) else ((fX4_set σ h (q_ref σ a0 3) x1 (1 : Int32)).bind fun h5 => ((fX4_set σ h5 (q_ref σ a0 9) x2 x1).bind fun h6 => ((fX4_at σ h6 (q_ref σ a0 2) x1).bind fun r7 => (if (99 : Int32) ≤ r7 then fX2_hire_98 σ h6 a0 x1 x2 (99 : Int32) x1 (q_ref σ a0 2) else ((fX4_at σ h6 (q_ref σ a0 2) x1).bind fun r8 => fX2_hire_98 σ h6 a0 x1 x2 (r8 + (1 : Int32)) x1 (q_ref σ a0 2)))))))) else some ((-3 : Int32), h))))))))
def cdX2_hire : q_Cd := [(0, .aload_n 0), (1, .iload_n 1), (2, .invokevirtual 81), (5, .ifCond .eq 11), (8, .aload_n 0), (9, .iload_n 2), (10, .invokevirtual 85), (13, .ifCond .ne 5), (16, .iconst (-1)), (17, .ireturn), (18, .aload_n 0), (19, .getfield 42), (22, .iload_n 2), (23, .invokestatic 88), (26, .bipush 9), (28, .if_icmp .ne 16), (31, .aload_n 0), (32, .iload_n 1), (33, .iload_n 2), (34, .aload_n 0), (35, .getfield 59), (38, .invokevirtual 92), (41, .ifCond .ne 6), (44, .bipush (-3)), (46, .ireturn), (47, .aload_n 0), (48, .getfield 24), (51, .iload_n 1), (52, .iconst 1), (53, .invokestatic 77), (56, .aload_n 0), (57, .getfield 42), (60, .iload_n 2), (61, .iload_n 1), (62, .invokestatic 77), (65, .aload_n 0), (66, .getfield 21), (69, .iload_n 1), (70, .aload_n 0), (71, .getfield 21), (74, .iload_n 1), (75, .invokestatic 88), (78, .bipush 99), (80, .if_icmp .ge 16), (83, .aload_n 0), (84, .getfield 21), (87, .iload_n 1), (88, .invokestatic 88), (91, .iconst 1), (92, .iadd), (93, .goto 5), (96, .bipush 99), (98, .invokestatic 77), (101, .aload_n 0), (102, .dup), (103, .getfield 59), (106, .aload_n 0), (107, .iload_n 1), (108, .invokevirtual 65), (111, .getfield 95), (114, .iadd), (115, .putfield 59), (118, .aload_n 0), (119, .getfield 59), (122, .ireturn)]
set_option maxRecDepth 100000 in
theorem cokX2_hire : q_cok cX2_hire cdX2_hire := by unfold q_cok; decide +kernel
set_option maxRecDepth 100000 in
set_option maxHeartbeats 4000000 in
theorem ctX2_hire {l : Launch} {D : va_G} {cy : Nat → Nat} {b0 : Nat} {σ : q_St} {h : q_Hp} (a0 : Nat) (x1 : Int32) (x2 : Int32) {r : Int32} {h' : q_Hp} (ta0 : q_tag σ a0 = 3) (hf : fX2_hire σ h a0 x1 x2 = some (r, h')) : q_M l yX2_hire cX2_hire 3 (some .int) 3 68 0 0 D cy b0 σ h [.ref a0, .int x1, .int x2] (some (.int r)) σ h' := by
  unfold fX2_hire at hf
  obtain ⟨⟨k0, k1, k2⟩, hf⟩ := q_gu_o hf
  refine q_enter (by decide) (Nat.le_of_ble_eq_true rfl) ?_
  intro p e s m args below meth c C0 hr hlk hnm
  replace C0 : VC p { frames := 3, cells := 0, slots := 0, locals := 68 } s m args meth c D cy b0 3 0 0 RX2 cX2_hire := C0
  have n98 : ∀ (h : q_Hp) (s0 : Int32) (s1 : Int32) (s2 : Nat), fX2_hire_98 σ h a0 x1 x2 s0 s1 s2 = some (r, h') → V p l e { frames := 3, cells := 0, slots := 0, locals := 68 } s m args below meth c (MQ below (q_Qc D cy b0 (some (.int r)) σ h') args s 0 0 (fun q => b0 ≤ q)) D cy b0 3 0 0 0 0 σ h 98 [(0, .ref a0), (1, .int x1)] [.int s0, .int s1, .ref s2] := by
    intro h s0 s1 s2 hf
    unfold fX2_hire_98 at hf
    obtain ⟨g9, hf⟩ := q_gu_o hf
    obtain ⟨h10, e10, hf⟩ := q_bd hf
    refine v_callSN C0 cokX2_hire rfl (rest := []) (ctX4_set s2 s1 s0 g9 e10) calX4_set lkX2_77 inX4_set dnX4_set rfl rfl ⟨by decide, by decide⟩ (Nat.le_of_ble_eq_true rfl) (Nat.le_refl _) (Nat.le_refl _) ?_
    refine v_run C0 tbX2 cokX2_hire (pc' := 108) (lv' := [(0, .ref a0), (1, .int x1)]) (st' := [.int x1, .ref a0, .int (q_int h10 a0 13), .ref a0]) (h' := h10) 5 rfl ⟨ta0, trivial⟩ ?_
    obtain ⟨r11, e11, hf⟩ := q_bd hf
    refine v_callV C0 cokX2_hire rfl (rest := [.int (q_int h10 a0 13), .ref a0]) (ctX2_kindOf a0 x1 ta0 e11) calX2_kindOf lkX2_65 inX2_kindOf dnX2_kindOf (ci := 2) ⟨rfl, by decide⟩ ta0 rfl rfl ⟨by decide, by decide⟩ (Nat.le_of_ble_eq_true rfl) (Nat.le_refl _) (Nat.le_refl _) ?_
    obtain ⟨g12, hf⟩ := q_gu_o hf
    refine v_run C0 tbX2 cokX2_hire (pc' := 122) (lv' := [(0, .ref a0), (1, .int x1)]) (st' := [.int (q_int (q_si h10 a0 13 ((q_int h10 a0 13) + (q_int h10 r11 2))) a0 13)]) (h' := (q_si h10 a0 13 ((q_int h10 a0 13) + (q_int h10 r11 2)))) 5 rfl ⟨g12, ta0, ta0, trivial⟩ ?_
    obtain ⟨rfl, rfl⟩ := Prod.mk.inj (Option.some.inj hf)
    exact v_iret C0 cokX2_hire hr hlk rfl
  refine v_run C0 tbX2 cokX2_hire (pc' := 2) (lv' := [(0, .ref a0), (1, .int x1), (2, .int x2)]) (st' := [.int x1, .ref a0]) (h' := h) 2 rfl trivial ?_
  obtain ⟨r1, e1, hf⟩ := q_bd hf
  refine v_callV C0 cokX2_hire rfl (rest := []) (ctX2_isSuit a0 x1 ta0 e1) calX2_isSuit lkX2_81 inX2_isSuit dnX2_isSuit (ci := 2) ⟨rfl, by decide⟩ ta0 rfl rfl ⟨by decide, by decide⟩ (Nat.le_of_ble_eq_true rfl) (Nat.le_refl _) (Nat.le_refl _) ?_
  refine v_if_eq C0 cokX2_hire rfl 16 (by decide) hf (fun _ hf => ?_) (fun _ hf => ?_)
  · refine v_run C0 tbX2 cokX2_hire (pc' := 17) (lv' := [(0, .ref a0), (1, .int x1), (2, .int x2)]) (st' := [.int (-1 : Int32)]) (h' := h) 1 rfl trivial ?_
    obtain ⟨rfl, rfl⟩ := Prod.mk.inj (Option.some.inj hf)
    exact v_iret C0 cokX2_hire hr hlk rfl
  · refine v_run C0 tbX2 cokX2_hire (pc' := 10) (lv' := [(0, .ref a0), (1, .int x1), (2, .int x2)]) (st' := [.int x2, .ref a0]) (h' := h) 2 rfl trivial ?_
    obtain ⟨r2, e2, hf⟩ := q_bd hf
    refine v_callV C0 cokX2_hire rfl (rest := []) (ctX2_isBooking a0 x2 ta0 e2) calX2_isBooking lkX2_85 inX2_isBooking dnX2_isBooking (ci := 2) ⟨rfl, by decide⟩ ta0 rfl rfl ⟨by decide, by decide⟩ (Nat.le_of_ble_eq_true rfl) (Nat.le_refl _) (Nat.le_refl _) ?_
    refine v_if_ne C0 cokX2_hire rfl 18 (by decide) hf (fun _ hf => ?_) (fun _ hf => ?_)
    · refine v_run C0 tbX2 cokX2_hire (pc' := 17) (lv' := [(0, .ref a0), (1, .int x1), (2, .int x2)]) (st' := [.int (-1 : Int32)]) (h' := h) 1 rfl trivial ?_
      obtain ⟨rfl, rfl⟩ := Prod.mk.inj (Option.some.inj hf)
      exact v_iret C0 cokX2_hire hr hlk rfl
    · refine v_run C0 tbX2 cokX2_hire (pc' := 23) (lv' := [(0, .ref a0), (1, .int x1), (2, .int x2)]) (st' := [.int x2, .ref (q_ref σ a0 9)]) (h' := h) 3 rfl ⟨⟨ta0, q_tn k0⟩, trivial⟩ ?_
      obtain ⟨r3, e3, hf⟩ := q_bd hf
      refine v_callSN C0 cokX2_hire rfl (rest := []) (ctX4_at (q_ref σ a0 9) x2 k0 e3) calX4_at lkX2_88 inX4_at dnX4_at rfl rfl ⟨by decide, by decide⟩ (Nat.le_of_ble_eq_true rfl) (Nat.le_refl _) (Nat.le_refl _) ?_
      refine v_run C0 tbX2 cokX2_hire (pc' := 28) (lv' := [(0, .ref a0), (1, .int x1), (2, .int x2)]) (st' := [.int (9 : Int32), .int r3]) (h' := h) 1 rfl trivial ?_
      refine v_icmp_ne C0 cokX2_hire rfl 44 (by decide) hf (fun _ hf => ?_) (fun _ hf => ?_)
      · refine v_run C0 tbX2 cokX2_hire (pc' := 38) (lv' := [(0, .ref a0), (1, .int x1), (2, .int x2)]) (st' := [.int (q_int h a0 13), .int x2, .int x1, .ref a0]) (h' := h) 5 rfl ⟨ta0, trivial⟩ ?_
        obtain ⟨r4, e4, hf⟩ := q_bd hf
        refine v_callV C0 cokX2_hire rfl (rest := []) (ctX2_canHire a0 x1 x2 (q_int h a0 13) ta0 e4) calX2_canHire lkX2_92 inX2_canHire dnX2_canHire (ci := 2) ⟨rfl, by decide⟩ ta0 rfl rfl ⟨by decide, by decide⟩ (Nat.le_of_ble_eq_true rfl) (Nat.le_refl _) (Nat.le_refl _) ?_
        refine v_if_ne C0 cokX2_hire rfl 47 (by decide) hf (fun _ hf => ?_) (fun _ hf => ?_)
        · refine v_run C0 tbX2 cokX2_hire (pc' := 46) (lv' := [(0, .ref a0), (1, .int x1), (2, .int x2)]) (st' := [.int (-3 : Int32)]) (h' := h) 1 rfl trivial ?_
          obtain ⟨rfl, rfl⟩ := Prod.mk.inj (Option.some.inj hf)
          exact v_iret C0 cokX2_hire hr hlk rfl
        · refine v_run C0 tbX2 cokX2_hire (pc' := 53) (lv' := [(0, .ref a0), (1, .int x1), (2, .int x2)]) (st' := [.int (1 : Int32), .int x1, .ref (q_ref σ a0 3)]) (h' := h) 4 rfl ⟨⟨ta0, q_tn k1⟩, trivial⟩ ?_
          obtain ⟨h5, e5, hf⟩ := q_bd hf
          refine v_callSN C0 cokX2_hire rfl (rest := []) (ctX4_set (q_ref σ a0 3) x1 (1 : Int32) k1 e5) calX4_set lkX2_77 inX4_set dnX4_set rfl rfl ⟨by decide, by decide⟩ (Nat.le_of_ble_eq_true rfl) (Nat.le_refl _) (Nat.le_refl _) ?_
          refine v_run C0 tbX2 cokX2_hire (pc' := 62) (lv' := [(0, .ref a0), (1, .int x1), (2, .int x2)]) (st' := [.int x1, .int x2, .ref (q_ref σ a0 9)]) (h' := h5) 4 rfl ⟨⟨ta0, q_tn k0⟩, trivial⟩ ?_
          obtain ⟨h6, e6, hf⟩ := q_bd hf
          refine v_callSN C0 cokX2_hire rfl (rest := []) (ctX4_set (q_ref σ a0 9) x2 x1 k0 e6) calX4_set lkX2_77 inX4_set dnX4_set rfl rfl ⟨by decide, by decide⟩ (Nat.le_of_ble_eq_true rfl) (Nat.le_refl _) (Nat.le_refl _) ?_
          refine v_run C0 tbX2 cokX2_hire (pc' := 75) (lv' := [(0, .ref a0), (1, .int x1), (2, .int x2)]) (st' := [.int x1, .ref (q_ref σ a0 2), .int x1, .ref (q_ref σ a0 2)]) (h' := h6) 6 rfl ⟨⟨ta0, q_tn k2⟩, ⟨ta0, q_tn k2⟩, trivial⟩ ?_
          obtain ⟨r7, e7, hf⟩ := q_bd hf
          refine v_callSN C0 cokX2_hire rfl (rest := [.int x1, .ref (q_ref σ a0 2)]) (ctX4_at (q_ref σ a0 2) x1 k2 e7) calX4_at lkX2_88 inX4_at dnX4_at rfl rfl ⟨by decide, by decide⟩ (Nat.le_of_ble_eq_true rfl) (Nat.le_refl _) (Nat.le_refl _) ?_
          refine v_run C0 tbX2 cokX2_hire (pc' := 80) (lv' := [(0, .ref a0), (1, .int x1), (2, .int x2)]) (st' := [.int (99 : Int32), .int r7, .int x1, .ref (q_ref σ a0 2)]) (h' := h6) 1 rfl trivial ?_
          refine v_icmp_ge C0 cokX2_hire rfl 96 (by decide) hf (fun _ hf => ?_) (fun _ hf => ?_)
          · refine v_run C0 tbX2 cokX2_hire (pc' := 98) (lv' := [(0, .ref a0), (1, .int x1), (2, .int x2)]) (st' := [.int (99 : Int32), .int x1, .ref (q_ref σ a0 2)]) (h' := h6) 1 rfl trivial ?_
            refine v_pick [0, 1] rfl ?_
            exact n98 h6 (99 : Int32) x1 (q_ref σ a0 2) hf
          · refine v_run C0 tbX2 cokX2_hire (pc' := 88) (lv' := [(0, .ref a0), (1, .int x1), (2, .int x2)]) (st' := [.int x1, .ref (q_ref σ a0 2), .int x1, .ref (q_ref σ a0 2)]) (h' := h6) 3 rfl ⟨⟨ta0, q_tn k2⟩, trivial⟩ ?_
            obtain ⟨r8, e8, hf⟩ := q_bd hf
            refine v_callSN C0 cokX2_hire rfl (rest := [.int x1, .ref (q_ref σ a0 2)]) (ctX4_at (q_ref σ a0 2) x1 k2 e8) calX4_at lkX2_88 inX4_at dnX4_at rfl rfl ⟨by decide, by decide⟩ (Nat.le_of_ble_eq_true rfl) (Nat.le_refl _) (Nat.le_refl _) ?_
            refine v_run C0 tbX2 cokX2_hire (pc' := 98) (lv' := [(0, .ref a0), (1, .int x1), (2, .int x2)]) (st' := [.int (r8 + (1 : Int32)), .int x1, .ref (q_ref σ a0 2)]) (h' := h6) 3 rfl trivial ?_
            refine v_pick [0, 1] rfl ?_
            exact n98 h6 (r8 + (1 : Int32)) x1 (q_ref σ a0 2) hf
      · refine v_run C0 tbX2 cokX2_hire (pc' := 46) (lv' := [(0, .ref a0), (1, .int x1), (2, .int x2)]) (st' := [.int (-3 : Int32)]) (h' := h) 1 rfl trivial ?_
        obtain ⟨rfl, rfl⟩ := Prod.mk.inj (Option.some.inj hf)
        exact v_iret C0 cokX2_hire hr hlk rfl
-- BackByNoonOnMonday$Shop.holderOf(I)I
noncomputable def fX2_holderOf_2 (σ : q_St) (h : q_Hp) (a0 : Nat) (x1 : Int32) (x2 : Int32) : Option (Int32 ⊕ (Unit ⊕ Int32)) := (if (q_int h a0 12) ≤ x2 then some (Sum.inr (Sum.inl ())) else ((fX4_at σ h (q_ref σ a0 9) x2).bind fun r3 => (if r3 = x1 then some (Sum.inr (Sum.inr x2)) else some (Sum.inl (x2 + (1 : Int32))))))
noncomputable def fX2_holderOf (σ : q_St) (h : q_Hp) (a0 : Nat) (x1 : Int32) : Option Int32 := q_gu ((q_tag σ (q_ref σ a0 9) = 7)) ((q_loop (fun s => fX2_holderOf_2 σ h a0 x1 s) q_N (0 : Int32)).bind fun o1 => q_el o1 fun w2 => some (-1 : Int32))
def cdX2_holderOf : q_Cd := [(0, .iconst 0), (1, .istore_n 2), (2, .iload_n 2), (3, .aload_n 0), (4, .getfield 56), (7, .if_icmp .ge 23), (10, .aload_n 0), (11, .getfield 42), (14, .iload_n 2), (15, .invokestatic 88), (18, .iload_n 1), (19, .if_icmp .ne 5), (22, .iload_n 2), (23, .ireturn), (24, .iinc 2 1), (27, .goto (-25)), (30, .iconst (-1)), (31, .ireturn)]
set_option maxRecDepth 100000 in
theorem cokX2_holderOf : q_cok cX2_holderOf cdX2_holderOf := by unfold q_cok; decide +kernel
set_option maxRecDepth 100000 in
set_option maxHeartbeats 4000000 in
theorem ctX2_holderOf {l : Launch} {D : va_G} {cy : Nat → Nat} {b0 : Nat} {σ : q_St} {h : q_Hp} (a0 : Nat) (x1 : Int32) {r : Int32} (ta0 : q_tag σ a0 = 3) (hf : fX2_holderOf σ h a0 x1 = some r) : q_M l yX2_holderOf cX2_holderOf 3 (some .int) 1 21 0 0 D cy b0 σ h [.ref a0, .int x1] (some (.int r)) σ h := by
  unfold fX2_holderOf at hf
  obtain ⟨k0, hf⟩ := q_gu_o hf
  refine q_enter (by decide) (Nat.le_of_ble_eq_true rfl) ?_
  intro p e s m args below meth c C0 hr hlk hnm
  replace C0 : VC p { frames := 1, cells := 0, slots := 0, locals := 21 } s m args meth c D cy b0 3 0 0 RX2 cX2_holderOf := C0
  have n2 : ∀ (o : (Unit ⊕ Int32)) (s1 : Int32), q_loop (fun s => fX2_holderOf_2 σ h a0 x1 s) q_N s1 = some o → (∀ w0 : Unit, Sum.inl w0 = o → V p l e { frames := 1, cells := 0, slots := 0, locals := 21 } s m args below meth c (MQ below (q_Qc D cy b0 (some (.int r)) σ h) args s 0 0 (fun q => b0 ≤ q)) D cy b0 3 0 0 0 0 σ h 30 [] []) → (∀ r0 : Int32, Sum.inr r0 = o → (some r0 : Option Int32) = some r) → V p l e { frames := 1, cells := 0, slots := 0, locals := 21 } s m args below meth c (MQ below (q_Qc D cy b0 (some (.int r)) σ h) args s 0 0 (fun q => b0 ≤ q)) D cy b0 3 0 0 0 0 σ h 2 [(0, .ref a0), (1, .int x1), (2, .int s1)] [] := by
    intro o s1 ho kx1 ke1
    refine q_loop_V (P := fun s0 => V p l e { frames := 1, cells := 0, slots := 0, locals := 21 } s m args below meth c (MQ below (q_Qc D cy b0 (some (.int r)) σ h) args s 0 0 (fun q => b0 ≤ q)) D cy b0 3 0 0 0 0 σ h 2 [(0, .ref a0), (1, .int x1), (2, .int s0)] []) (o := o) ?_ q_N s1 ho
    intro x2 z1 hf kb1 kr1
    replace hf : fX2_holderOf_2 σ h a0 x1 x2 = some z1 := hf
    unfold fX2_holderOf_2 at hf
    show V p l e { frames := 1, cells := 0, slots := 0, locals := 21 } s m args below meth c (MQ below (q_Qc D cy b0 (some (.int r)) σ h) args s 0 0 (fun q => b0 ≤ q)) D cy b0 3 0 0 0 0 σ h 2 [(0, .ref a0), (1, .int x1), (2, .int x2)] []
    refine v_run C0 tbX2 cokX2_holderOf (pc' := 7) (lv' := [(0, .ref a0), (1, .int x1), (2, .int x2)]) (st' := [.int (q_int h a0 12), .int x2]) (h' := h) 3 rfl ⟨ta0, trivial⟩ ?_
    refine v_icmp_ge C0 cokX2_holderOf rfl 30 (by decide) hf (fun _ hf => ?_) (fun _ hf => ?_)
    · obtain rfl := Option.some.inj hf
      refine v_pick [] rfl ?_
      exact kx1 _ (kr1 _ rfl)
    · refine v_run C0 tbX2 cokX2_holderOf (pc' := 15) (lv' := [(0, .ref a0), (1, .int x1), (2, .int x2)]) (st' := [.int x2, .ref (q_ref σ a0 9)]) (h' := h) 3 rfl ⟨⟨ta0, q_tn k0⟩, trivial⟩ ?_
      obtain ⟨r3, e3, hf⟩ := q_bd hf
      refine v_callSN C0 cokX2_holderOf rfl (rest := []) (ctX4_at (q_ref σ a0 9) x2 k0 e3) calX4_at lkX2_88 inX4_at dnX4_at rfl rfl ⟨by decide, by decide⟩ (Nat.le_of_ble_eq_true rfl) (Nat.le_refl _) (Nat.le_refl _) ?_
      refine v_run C0 tbX2 cokX2_holderOf (pc' := 19) (lv' := [(0, .ref a0), (1, .int x1), (2, .int x2)]) (st' := [.int x1, .int r3]) (h' := h) 1 rfl trivial ?_
      refine v_icmp_ne C0 cokX2_holderOf rfl 24 (by decide) hf (fun _ hf => ?_) (fun _ hf => ?_)
      · refine v_run C0 tbX2 cokX2_holderOf (pc' := 23) (lv' := [(0, .ref a0), (1, .int x1), (2, .int x2)]) (st' := [.int x2]) (h' := h) 1 rfl trivial ?_
        obtain rfl := Option.some.inj hf
        have hf := ke1 _ (kr1 _ rfl)
        obtain rfl := Option.some.inj hf
        exact v_iret C0 cokX2_holderOf hr hlk rfl
      · refine v_run C0 tbX2 cokX2_holderOf (pc' := 2) (lv' := [(2, .int (x2 + (1 : Int32))), (0, .ref a0), (1, .int x1)]) (st' := []) (h' := h) 2 rfl trivial ?_
        obtain rfl := Option.some.inj hf
        refine v_pick [1, 2, 0] rfl ?_
        exact kb1 _ rfl
  refine v_run C0 tbX2 cokX2_holderOf (pc' := 2) (lv' := [(2, .int (0 : Int32)), (0, .ref a0), (1, .int x1)]) (st' := []) (h' := h) 2 rfl trivial ?_
  obtain ⟨o1, eo1, hf⟩ := q_bd hf
  refine v_pick [1, 2, 0] rfl ?_
  refine n2 o1 (0 : Int32) eo1 (fun w2 hx => ?_) (fun r0 hx => ?_)
  · rw [← hx] at hf
    replace hf := q_el_l hf
    refine v_run C0 tbX2 cokX2_holderOf (pc' := 31) (lv' := []) (st' := [.int (-1 : Int32)]) (h' := h) 1 rfl trivial ?_
    obtain rfl := Option.some.inj hf
    exact v_iret C0 cokX2_holderOf hr hlk rfl
  · rw [← hx] at hf
    exact hf
-- BackByNoonOnMonday$Shop.giveBack(I)I
noncomputable def fX2_giveBack (σ : q_St) (h : q_Hp) (a0 : Nat) (x1 : Int32) : Option (Int32 × q_Hp) := q_gu ((q_tag σ (q_ref σ a0 3) = 7) ∧ (q_tag σ (q_ref σ a0 9) = 7)) (((fX2_isSuit σ h a0 x1).bind fun r1 => (if r1 = 0 then some ((-1 : Int32), h) else ((fX4_at σ h (q_ref σ a0 3) x1).bind fun r2 => (if r2 = (1 : Int32) then ((fX2_holderOf σ h a0 x1).bind fun r3 => ((fX4_set σ h (q_ref σ a0 3) x1 (2 : Int32)).bind fun h4 => ((fX4_set σ h4 (q_ref σ a0 9) r3 (9 : Int32)).bind fun h5 => some (r3, h5)))) else some ((-3 : Int32), h))))))
def cdX2_giveBack : q_Cd := [(0, .aload_n 0), (1, .iload_n 1), (2, .invokevirtual 81), (5, .ifCond .ne 5), (8, .iconst (-1)), (9, .ireturn), (10, .aload_n 0), (11, .getfield 24), (14, .iload_n 1), (15, .invokestatic 88), (18, .iconst 1), (19, .if_icmp .eq 6), (22, .bipush (-3)), (24, .ireturn), (25, .aload_n 0), (26, .iload_n 1), (27, .invokevirtual 102), (30, .istore_n 2), (31, .aload_n 0), (32, .getfield 24), (35, .iload_n 1), (36, .iconst 2), (37, .invokestatic 77), (40, .aload_n 0), (41, .getfield 42), (44, .iload_n 2), (45, .bipush 9), (47, .invokestatic 77), (50, .iload_n 2), (51, .ireturn)]
set_option maxRecDepth 100000 in
theorem cokX2_giveBack : q_cok cX2_giveBack cdX2_giveBack := by unfold q_cok; decide +kernel
set_option maxRecDepth 100000 in
set_option maxHeartbeats 4000000 in
theorem ctX2_giveBack {l : Launch} {D : va_G} {cy : Nat → Nat} {b0 : Nat} {σ : q_St} {h : q_Hp} (a0 : Nat) (x1 : Int32) {r : Int32} {h' : q_Hp} (ta0 : q_tag σ a0 = 3) (hf : fX2_giveBack σ h a0 x1 = some (r, h')) : q_M l yX2_giveBack cX2_giveBack 3 (some .int) 2 43 0 0 D cy b0 σ h [.ref a0, .int x1] (some (.int r)) σ h' := by
  unfold fX2_giveBack at hf
  obtain ⟨⟨k0, k1⟩, hf⟩ := q_gu_o hf
  refine q_enter (by decide) (Nat.le_of_ble_eq_true rfl) ?_
  intro p e s m args below meth c C0 hr hlk hnm
  replace C0 : VC p { frames := 2, cells := 0, slots := 0, locals := 43 } s m args meth c D cy b0 3 0 0 RX2 cX2_giveBack := C0
  refine v_run C0 tbX2 cokX2_giveBack (pc' := 2) (lv' := [(0, .ref a0), (1, .int x1)]) (st' := [.int x1, .ref a0]) (h' := h) 2 rfl trivial ?_
  obtain ⟨r1, e1, hf⟩ := q_bd hf
  refine v_callV C0 cokX2_giveBack rfl (rest := []) (ctX2_isSuit a0 x1 ta0 e1) calX2_isSuit lkX2_81 inX2_isSuit dnX2_isSuit (ci := 2) ⟨rfl, by decide⟩ ta0 rfl rfl ⟨by decide, by decide⟩ (Nat.le_of_ble_eq_true rfl) (Nat.le_refl _) (Nat.le_refl _) ?_
  refine v_if_ne C0 cokX2_giveBack rfl 10 (by decide) hf (fun _ hf => ?_) (fun _ hf => ?_)
  · refine v_run C0 tbX2 cokX2_giveBack (pc' := 9) (lv' := [(0, .ref a0), (1, .int x1)]) (st' := [.int (-1 : Int32)]) (h' := h) 1 rfl trivial ?_
    obtain ⟨rfl, rfl⟩ := Prod.mk.inj (Option.some.inj hf)
    exact v_iret C0 cokX2_giveBack hr hlk rfl
  · refine v_run C0 tbX2 cokX2_giveBack (pc' := 15) (lv' := [(0, .ref a0), (1, .int x1)]) (st' := [.int x1, .ref (q_ref σ a0 3)]) (h' := h) 3 rfl ⟨⟨ta0, q_tn k0⟩, trivial⟩ ?_
    obtain ⟨r2, e2, hf⟩ := q_bd hf
    refine v_callSN C0 cokX2_giveBack rfl (rest := []) (ctX4_at (q_ref σ a0 3) x1 k0 e2) calX4_at lkX2_88 inX4_at dnX4_at rfl rfl ⟨by decide, by decide⟩ (Nat.le_of_ble_eq_true rfl) (Nat.le_refl _) (Nat.le_refl _) ?_
    refine v_run C0 tbX2 cokX2_giveBack (pc' := 19) (lv' := [(0, .ref a0), (1, .int x1)]) (st' := [.int (1 : Int32), .int r2]) (h' := h) 1 rfl trivial ?_
    refine v_icmp_eq C0 cokX2_giveBack rfl 25 (by decide) hf (fun _ hf => ?_) (fun _ hf => ?_)
    · refine v_run C0 tbX2 cokX2_giveBack (pc' := 27) (lv' := [(0, .ref a0), (1, .int x1)]) (st' := [.int x1, .ref a0]) (h' := h) 2 rfl trivial ?_
      obtain ⟨r3, e3, hf⟩ := q_bd hf
      refine v_callV C0 cokX2_giveBack rfl (rest := []) (ctX2_holderOf a0 x1 ta0 e3) calX2_holderOf lkX2_102 inX2_holderOf dnX2_holderOf (ci := 2) ⟨rfl, by decide⟩ ta0 rfl rfl ⟨by decide, by decide⟩ (Nat.le_of_ble_eq_true rfl) (Nat.le_refl _) (Nat.le_refl _) ?_
      refine v_run C0 tbX2 cokX2_giveBack (pc' := 37) (lv' := [(2, .int r3), (0, .ref a0), (1, .int x1)]) (st' := [.int (2 : Int32), .int x1, .ref (q_ref σ a0 3)]) (h' := h) 5 rfl ⟨⟨ta0, q_tn k0⟩, trivial⟩ ?_
      obtain ⟨h4, e4, hf⟩ := q_bd hf
      refine v_callSN C0 cokX2_giveBack rfl (rest := []) (ctX4_set (q_ref σ a0 3) x1 (2 : Int32) k0 e4) calX4_set lkX2_77 inX4_set dnX4_set rfl rfl ⟨by decide, by decide⟩ (Nat.le_of_ble_eq_true rfl) (Nat.le_refl _) (Nat.le_refl _) ?_
      refine v_run C0 tbX2 cokX2_giveBack (pc' := 47) (lv' := [(2, .int r3), (0, .ref a0), (1, .int x1)]) (st' := [.int (9 : Int32), .int r3, .ref (q_ref σ a0 9)]) (h' := h4) 4 rfl ⟨⟨ta0, q_tn k1⟩, trivial⟩ ?_
      obtain ⟨h5, e5, hf⟩ := q_bd hf
      refine v_callSN C0 cokX2_giveBack rfl (rest := []) (ctX4_set (q_ref σ a0 9) r3 (9 : Int32) k1 e5) calX4_set lkX2_77 inX4_set dnX4_set rfl rfl ⟨by decide, by decide⟩ (Nat.le_of_ble_eq_true rfl) (Nat.le_refl _) (Nat.le_refl _) ?_
      refine v_run C0 tbX2 cokX2_giveBack (pc' := 51) (lv' := [(2, .int r3), (0, .ref a0), (1, .int x1)]) (st' := [.int r3]) (h' := h5) 1 rfl trivial ?_
      obtain ⟨rfl, rfl⟩ := Prod.mk.inj (Option.some.inj hf)
      exact v_iret C0 cokX2_giveBack hr hlk rfl
    · refine v_run C0 tbX2 cokX2_giveBack (pc' := 24) (lv' := [(0, .ref a0), (1, .int x1)]) (st' := [.int (-3 : Int32)]) (h' := h) 1 rfl trivial ?_
      obtain ⟨rfl, rfl⟩ := Prod.mk.inj (Option.some.inj hf)
      exact v_iret C0 cokX2_giveBack hr hlk rfl
-- BackByNoonOnMonday$Shop.clean(I)I
noncomputable def fX2_clean (σ : q_St) (h : q_Hp) (a0 : Nat) (x1 : Int32) : Option (Int32 × q_Hp) := q_gu ((q_tag σ (q_ref σ a0 3) = 7)) (((fX2_isSuit σ h a0 x1).bind fun r1 => (if r1 = 0 then some ((-1 : Int32), h) else ((fX2_kindOf σ h a0 x1).bind fun r2 => q_gu ((q_tag σ r2 = 4)) (((fX4_at σ h (q_ref σ a0 3) x1).bind fun r4 => (if r4 = (2 : Int32) then (if ((q_int h a0 14) + (q_int h r2 4)) ≤ (999 : Int32) then ((fX4_set σ h (q_ref σ a0 3) x1 (0 : Int32)).bind fun h5 => some ((q_int (q_si h5 a0 14 ((q_int h a0 14) + (q_int h r2 4))) a0 14), (q_si h5 a0 14 ((q_int h a0 14) + (q_int h r2 4))))) else some ((-3 : Int32), h)) else some ((-3 : Int32), h))))))))
def cdX2_clean : q_Cd := [(0, .aload_n 0), (1, .iload_n 1), (2, .invokevirtual 81), (5, .ifCond .ne 5), (8, .iconst (-1)), (9, .ireturn), (10, .aload_n 0), (11, .getfield 62), (14, .aload_n 0), (15, .iload_n 1), (16, .invokevirtual 65), (19, .getfield 106), (22, .iadd), (23, .istore_n 2), (24, .aload_n 0), (25, .getfield 24), (28, .iload_n 1), (29, .invokestatic 88), (32, .iconst 2), (33, .if_icmp .ne 10), (36, .iload_n 2), (37, .sipush 999), (40, .if_icmp .le 6), (43, .bipush (-3)), (45, .ireturn), (46, .aload_n 0), (47, .getfield 24), (50, .iload_n 1), (51, .iconst 0), (52, .invokestatic 77), (55, .aload_n 0), (56, .iload_n 2), (57, .putfield 62), (60, .aload_n 0), (61, .getfield 62), (64, .ireturn)]
set_option maxRecDepth 100000 in
theorem cokX2_clean : q_cok cX2_clean cdX2_clean := by unfold q_cok; decide +kernel
set_option maxRecDepth 100000 in
set_option maxHeartbeats 4000000 in
theorem ctX2_clean {l : Launch} {D : va_G} {cy : Nat → Nat} {b0 : Nat} {σ : q_St} {h : q_Hp} (a0 : Nat) (x1 : Int32) {r : Int32} {h' : q_Hp} (ta0 : q_tag σ a0 = 3) (hf : fX2_clean σ h a0 x1 = some (r, h')) : q_M l yX2_clean cX2_clean 3 (some .int) 2 43 0 0 D cy b0 σ h [.ref a0, .int x1] (some (.int r)) σ h' := by
  unfold fX2_clean at hf
  obtain ⟨k0, hf⟩ := q_gu_o hf
  refine q_enter (by decide) (Nat.le_of_ble_eq_true rfl) ?_
  intro p e s m args below meth c C0 hr hlk hnm
  replace C0 : VC p { frames := 2, cells := 0, slots := 0, locals := 43 } s m args meth c D cy b0 3 0 0 RX2 cX2_clean := C0
  refine v_run C0 tbX2 cokX2_clean (pc' := 2) (lv' := [(0, .ref a0), (1, .int x1)]) (st' := [.int x1, .ref a0]) (h' := h) 2 rfl trivial ?_
  obtain ⟨r1, e1, hf⟩ := q_bd hf
  refine v_callV C0 cokX2_clean rfl (rest := []) (ctX2_isSuit a0 x1 ta0 e1) calX2_isSuit lkX2_81 inX2_isSuit dnX2_isSuit (ci := 2) ⟨rfl, by decide⟩ ta0 rfl rfl ⟨by decide, by decide⟩ (Nat.le_of_ble_eq_true rfl) (Nat.le_refl _) (Nat.le_refl _) ?_
  refine v_if_ne C0 cokX2_clean rfl 10 (by decide) hf (fun _ hf => ?_) (fun _ hf => ?_)
  · refine v_run C0 tbX2 cokX2_clean (pc' := 9) (lv' := [(0, .ref a0), (1, .int x1)]) (st' := [.int (-1 : Int32)]) (h' := h) 1 rfl trivial ?_
    obtain ⟨rfl, rfl⟩ := Prod.mk.inj (Option.some.inj hf)
    exact v_iret C0 cokX2_clean hr hlk rfl
  · refine v_run C0 tbX2 cokX2_clean (pc' := 16) (lv' := [(0, .ref a0), (1, .int x1)]) (st' := [.int x1, .ref a0, .int (q_int h a0 14)]) (h' := h) 4 rfl ⟨ta0, trivial⟩ ?_
    obtain ⟨r2, e2, hf⟩ := q_bd hf
    refine v_callV C0 cokX2_clean rfl (rest := [.int (q_int h a0 14)]) (ctX2_kindOf a0 x1 ta0 e2) calX2_kindOf lkX2_65 inX2_kindOf dnX2_kindOf (ci := 2) ⟨rfl, by decide⟩ ta0 rfl rfl ⟨by decide, by decide⟩ (Nat.le_of_ble_eq_true rfl) (Nat.le_refl _) (Nat.le_refl _) ?_
    obtain ⟨g3, hf⟩ := q_gu_o hf
    refine v_run C0 tbX2 cokX2_clean (pc' := 29) (lv' := [(2, .int ((q_int h a0 14) + (q_int h r2 4))), (0, .ref a0), (1, .int x1)]) (st' := [.int x1, .ref (q_ref σ a0 3)]) (h' := h) 6 rfl ⟨g3, ⟨ta0, q_tn k0⟩, trivial⟩ ?_
    obtain ⟨r4, e4, hf⟩ := q_bd hf
    refine v_callSN C0 cokX2_clean rfl (rest := []) (ctX4_at (q_ref σ a0 3) x1 k0 e4) calX4_at lkX2_88 inX4_at dnX4_at rfl rfl ⟨by decide, by decide⟩ (Nat.le_of_ble_eq_true rfl) (Nat.le_refl _) (Nat.le_refl _) ?_
    refine v_run C0 tbX2 cokX2_clean (pc' := 33) (lv' := [(2, .int ((q_int h a0 14) + (q_int h r2 4))), (0, .ref a0), (1, .int x1)]) (st' := [.int (2 : Int32), .int r4]) (h' := h) 1 rfl trivial ?_
    refine v_icmp_ne C0 cokX2_clean rfl 43 (by decide) hf (fun _ hf => ?_) (fun _ hf => ?_)
    · refine v_run C0 tbX2 cokX2_clean (pc' := 40) (lv' := [(2, .int ((q_int h a0 14) + (q_int h r2 4))), (0, .ref a0), (1, .int x1)]) (st' := [.int (999 : Int32), .int ((q_int h a0 14) + (q_int h r2 4))]) (h' := h) 2 rfl trivial ?_
      refine v_icmp_le C0 cokX2_clean rfl 46 (by decide) hf (fun _ hf => ?_) (fun _ hf => ?_)
      · refine v_run C0 tbX2 cokX2_clean (pc' := 52) (lv' := [(2, .int ((q_int h a0 14) + (q_int h r2 4))), (0, .ref a0), (1, .int x1)]) (st' := [.int (0 : Int32), .int x1, .ref (q_ref σ a0 3)]) (h' := h) 4 rfl ⟨⟨ta0, q_tn k0⟩, trivial⟩ ?_
        obtain ⟨h5, e5, hf⟩ := q_bd hf
        refine v_callSN C0 cokX2_clean rfl (rest := []) (ctX4_set (q_ref σ a0 3) x1 (0 : Int32) k0 e5) calX4_set lkX2_77 inX4_set dnX4_set rfl rfl ⟨by decide, by decide⟩ (Nat.le_of_ble_eq_true rfl) (Nat.le_refl _) (Nat.le_refl _) ?_
        refine v_run C0 tbX2 cokX2_clean (pc' := 64) (lv' := [(2, .int ((q_int h a0 14) + (q_int h r2 4))), (0, .ref a0), (1, .int x1)]) (st' := [.int (q_int (q_si h5 a0 14 ((q_int h a0 14) + (q_int h r2 4))) a0 14)]) (h' := (q_si h5 a0 14 ((q_int h a0 14) + (q_int h r2 4)))) 5 rfl ⟨ta0, ta0, trivial⟩ ?_
        obtain ⟨rfl, rfl⟩ := Prod.mk.inj (Option.some.inj hf)
        exact v_iret C0 cokX2_clean hr hlk rfl
      · refine v_run C0 tbX2 cokX2_clean (pc' := 45) (lv' := [(2, .int ((q_int h a0 14) + (q_int h r2 4))), (0, .ref a0), (1, .int x1)]) (st' := [.int (-3 : Int32)]) (h' := h) 1 rfl trivial ?_
        obtain ⟨rfl, rfl⟩ := Prod.mk.inj (Option.some.inj hf)
        exact v_iret C0 cokX2_clean hr hlk rfl
    · refine v_run C0 tbX2 cokX2_clean (pc' := 45) (lv' := [(2, .int ((q_int h a0 14) + (q_int h r2 4))), (0, .ref a0), (1, .int x1)]) (st' := [.int (-3 : Int32)]) (h' := h) 1 rfl trivial ?_
      obtain ⟨rfl, rfl⟩ := Prod.mk.inj (Option.some.inj hf)
      exact v_iret C0 cokX2_clean hr hlk rfl
-- BackByNoonOnMonday$Shop.growthWeight(II)J
noncomputable def fX2_growthWeight_73 (σ : q_St) (h : q_Hp) (a0 : Nat) (x1 : Int32) (x2 : Int32) (y3 : Int64) (x5 : Int32) : Option ((Int64 × Int32) ⊕ Int64) := some (Sum.inl (y3, (x5 + (1 : Int32))))
noncomputable def fX2_growthWeight_71 (σ : q_St) (h : q_Hp) (a0 : Nat) (x1 : Int32) (x2 : Int32) (x5 : Int32) (s0 : Int64) (s1 : Int64) : Option ((Int64 × Int32) ⊕ Int64) := fX2_growthWeight_73 σ h a0 x1 x2 (s1 * s0) x5
noncomputable def fX2_growthWeight_17 (σ : q_St) (h : q_Hp) (a0 : Nat) (x1 : Int32) (x2 : Int32) (y3 : Int64) (x5 : Int32) : Option ((Int64 × Int32) ⊕ Int64) := (if (q_int h a0 12) ≤ x5 then some (Sum.inr y3) else ((fX4_hasBit σ h x2 x5).bind fun r2 => (if r2 = 0 then fX2_growthWeight_73 σ h a0 x1 x2 y3 x5 else ((fX4_hasBit σ h x1 x5).bind fun r3 => (if r3 = 0 then ((fX4_at σ h (q_ref σ a0 6) x5).bind fun r4 => fX2_growthWeight_71 σ h a0 x1 x2 x5 (Int32.toInt64 ((10 : Int32) - r4)) y3) else ((fX4_at σ h (q_ref σ a0 6) x5).bind fun r5 => fX2_growthWeight_71 σ h a0 x1 x2 x5 (Int32.toInt64 r5) y3))))))
noncomputable def fX2_growthWeight_13 (σ : q_St) (h : q_Hp) (a0 : Nat) (x1 : Int32) (x2 : Int32) (s0 : Int64) : Option Int64 := (q_loop (fun s => fX2_growthWeight_17 σ h a0 x1 x2 s.1 s.2) q_N (s0, (0 : Int32))).bind fun o1 => some o1
noncomputable def fX2_growthWeight (σ : q_St) (h : q_Hp) (a0 : Nat) (x1 : Int32) (x2 : Int32) : Option Int64 := q_gu ((q_tag σ (q_ref σ a0 6) = 7)) ((if (x1 &&& (x2 ^^^ (-1 : Int32))) = 0 then fX2_growthWeight_13 σ h a0 x1 x2 (1 : Int64) else fX2_growthWeight_13 σ h a0 x1 x2 (0 : Int64)))
def cdX2_growthWeight : q_Cd := [(0, .iload_n 1), (1, .iload_n 2), (2, .iconst (-1)), (3, .ixor), (4, .iand), (5, .ifCond .ne 7), (8, .lconst 1), (9, .goto 4), (12, .lconst 0), (13, .lstore_n 3), (14, .iconst 0), (15, .istore 5), (17, .iload 5), (19, .aload_n 0), (20, .getfield 56), (23, .if_icmp .ge 56), (26, .iload_n 2), (27, .iload 5), (29, .invokestatic 122), (32, .ifCond .eq 41), (35, .lload_n 3), (36, .iload_n 1), (37, .iload 5), (39, .invokestatic 122), (42, .ifCond .eq 16), (45, .aload_n 0), (46, .getfield 33), (49, .iload 5), (51, .invokestatic 88), (54, .i2l), (55, .goto 16), (58, .bipush 10), (60, .aload_n 0), (61, .getfield 33), (64, .iload 5), (66, .invokestatic 88), (69, .isub), (70, .i2l), (71, .lmul), (72, .lstore_n 3), (73, .iinc 5 1), (76, .goto (-59)), (79, .lload_n 3), (80, .lreturn)]
set_option maxRecDepth 100000 in
theorem cokX2_growthWeight : q_cok cX2_growthWeight cdX2_growthWeight := by unfold q_cok; decide +kernel
set_option maxRecDepth 100000 in
set_option maxHeartbeats 4000000 in
theorem ctX2_growthWeight {l : Launch} {D : va_G} {cy : Nat → Nat} {b0 : Nat} {σ : q_St} {h : q_Hp} (a0 : Nat) (x1 : Int32) (x2 : Int32) {r : Int64} (ta0 : q_tag σ a0 = 3) (hf : fX2_growthWeight σ h a0 x1 x2 = some r) : q_M l yX2_growthWeight cX2_growthWeight 6 (some .long) 1 21 0 0 D cy b0 σ h [.ref a0, .int x1, .int x2] (some (.long r)) σ h := by
  unfold fX2_growthWeight at hf
  obtain ⟨k0, hf⟩ := q_gu_o hf
  refine q_enter (by decide) (Nat.le_of_ble_eq_true rfl) ?_
  intro p e s m args below meth c C0 hr hlk hnm
  replace C0 : VC p { frames := 1, cells := 0, slots := 0, locals := 21 } s m args meth c D cy b0 6 0 0 RX2 cX2_growthWeight := C0
  have n17 : ∀ (o : Int64) (s1 : (Int64 × Int32)), q_loop (fun s => fX2_growthWeight_17 σ h a0 x1 x2 s.1 s.2) q_N s1 = some o → V p l e { frames := 1, cells := 0, slots := 0, locals := 21 } s m args below meth c (MQ below (q_Qc D cy b0 (some (.long r)) σ h) args s 0 0 (fun q => b0 ≤ q)) D cy b0 6 0 0 0 0 σ h 79 [(3, .long o)] [] → V p l e { frames := 1, cells := 0, slots := 0, locals := 21 } s m args below meth c (MQ below (q_Qc D cy b0 (some (.long r)) σ h) args s 0 0 (fun q => b0 ≤ q)) D cy b0 6 0 0 0 0 σ h 17 [(0, .ref a0), (1, .int x1), (2, .int x2), (3, .long s1.1), (5, .int s1.2)] [] := by
    intro o s1 ho kx1
    refine q_loop_V (P := fun s0 => V p l e { frames := 1, cells := 0, slots := 0, locals := 21 } s m args below meth c (MQ below (q_Qc D cy b0 (some (.long r)) σ h) args s 0 0 (fun q => b0 ≤ q)) D cy b0 6 0 0 0 0 σ h 17 [(0, .ref a0), (1, .int x1), (2, .int x2), (3, .long s0.1), (5, .int s0.2)] []) (o := o) ?_ q_N s1 ho
    intro s2 z1 hf kb1 kr1
    obtain ⟨y3, x5⟩ := s2
    replace hf : fX2_growthWeight_17 σ h a0 x1 x2 y3 x5 = some z1 := hf
    unfold fX2_growthWeight_17 at hf
    show V p l e { frames := 1, cells := 0, slots := 0, locals := 21 } s m args below meth c (MQ below (q_Qc D cy b0 (some (.long r)) σ h) args s 0 0 (fun q => b0 ≤ q)) D cy b0 6 0 0 0 0 σ h 17 [(0, .ref a0), (1, .int x1), (2, .int x2), (3, .long y3), (5, .int x5)] []
    have n73 : ∀ (y3 : Int64) (x5 : Int32), fX2_growthWeight_73 σ h a0 x1 x2 y3 x5 = some z1 → V p l e { frames := 1, cells := 0, slots := 0, locals := 21 } s m args below meth c (MQ below (q_Qc D cy b0 (some (.long r)) σ h) args s 0 0 (fun q => b0 ≤ q)) D cy b0 6 0 0 0 0 σ h 73 [(0, .ref a0), (1, .int x1), (2, .int x2), (3, .long y3), (5, .int x5)] [] := by
      intro y3 x5 hf
      unfold fX2_growthWeight_73 at hf
      refine v_run C0 tbX2 cokX2_growthWeight (pc' := 17) (lv' := [(5, .int (x5 + (1 : Int32))), (0, .ref a0), (1, .int x1), (2, .int x2), (3, .long y3)]) (st' := []) (h' := h) 2 rfl trivial ?_
      obtain rfl := Option.some.inj hf
      refine v_pick [1, 2, 3, 4, 0] rfl ?_
      exact kb1 _ rfl
    have n71 : ∀ (x5 : Int32) (s0 : Int64) (s1 : Int64), fX2_growthWeight_71 σ h a0 x1 x2 x5 s0 s1 = some z1 → V p l e { frames := 1, cells := 0, slots := 0, locals := 21 } s m args below meth c (MQ below (q_Qc D cy b0 (some (.long r)) σ h) args s 0 0 (fun q => b0 ≤ q)) D cy b0 6 0 0 0 0 σ h 71 [(0, .ref a0), (1, .int x1), (2, .int x2), (5, .int x5)] [.long s0, .long s1] := by
      intro x5 s0 s1 hf
      unfold fX2_growthWeight_71 at hf
      refine v_run C0 tbX2 cokX2_growthWeight (pc' := 73) (lv' := [(3, .long (s1 * s0)), (0, .ref a0), (1, .int x1), (2, .int x2), (5, .int x5)]) (st' := []) (h' := h) 2 rfl trivial ?_
      refine v_pick [1, 2, 3, 0, 4] rfl ?_
      exact n73 (s1 * s0) x5 hf
    refine v_run C0 tbX2 cokX2_growthWeight (pc' := 23) (lv' := [(0, .ref a0), (1, .int x1), (2, .int x2), (3, .long y3), (5, .int x5)]) (st' := [.int (q_int h a0 12), .int x5]) (h' := h) 3 rfl ⟨ta0, trivial⟩ ?_
    refine v_icmp_ge C0 cokX2_growthWeight rfl 79 (by decide) hf (fun _ hf => ?_) (fun _ hf => ?_)
    · obtain rfl := Option.some.inj hf
      refine v_pick [3] rfl ?_
      have hx := kr1 _ rfl
      subst hx
      exact kx1
    · refine v_run C0 tbX2 cokX2_growthWeight (pc' := 29) (lv' := [(0, .ref a0), (1, .int x1), (2, .int x2), (3, .long y3), (5, .int x5)]) (st' := [.int x5, .int x2]) (h' := h) 2 rfl trivial ?_
      obtain ⟨r2, e2, hf⟩ := q_bd hf
      refine v_callSN C0 cokX2_growthWeight rfl (rest := []) (ctX4_hasBit x2 x5 e2) calX4_hasBit lkX2_122 inX4_hasBit dnX4_hasBit rfl rfl ⟨by decide, by decide⟩ (Nat.le_of_ble_eq_true rfl) (Nat.le_refl _) (Nat.le_refl _) ?_
      refine v_if_eq C0 cokX2_growthWeight rfl 73 (by decide) hf (fun _ hf => ?_) (fun _ hf => ?_)
      · refine v_pick [0, 1, 2, 3, 4] rfl ?_
        exact n73 y3 x5 hf
      · refine v_run C0 tbX2 cokX2_growthWeight (pc' := 39) (lv' := [(0, .ref a0), (1, .int x1), (2, .int x2), (3, .long y3), (5, .int x5)]) (st' := [.int x5, .int x1, .long y3]) (h' := h) 3 rfl trivial ?_
        obtain ⟨r3, e3, hf⟩ := q_bd hf
        refine v_callSN C0 cokX2_growthWeight rfl (rest := [.long y3]) (ctX4_hasBit x1 x5 e3) calX4_hasBit lkX2_122 inX4_hasBit dnX4_hasBit rfl rfl ⟨by decide, by decide⟩ (Nat.le_of_ble_eq_true rfl) (Nat.le_refl _) (Nat.le_refl _) ?_
        refine v_if_eq C0 cokX2_growthWeight rfl 58 (by decide) hf (fun _ hf => ?_) (fun _ hf => ?_)
        · refine v_run C0 tbX2 cokX2_growthWeight (pc' := 66) (lv' := [(0, .ref a0), (1, .int x1), (2, .int x2), (3, .long y3), (5, .int x5)]) (st' := [.int x5, .ref (q_ref σ a0 6), .int (10 : Int32), .long y3]) (h' := h) 4 rfl ⟨⟨ta0, q_tn k0⟩, trivial⟩ ?_
          obtain ⟨r4, e4, hf⟩ := q_bd hf
          refine v_callSN C0 cokX2_growthWeight rfl (rest := [.int (10 : Int32), .long y3]) (ctX4_at (q_ref σ a0 6) x5 k0 e4) calX4_at lkX2_88 inX4_at dnX4_at rfl rfl ⟨by decide, by decide⟩ (Nat.le_of_ble_eq_true rfl) (Nat.le_refl _) (Nat.le_refl _) ?_
          refine v_run C0 tbX2 cokX2_growthWeight (pc' := 71) (lv' := [(0, .ref a0), (1, .int x1), (2, .int x2), (3, .long y3), (5, .int x5)]) (st' := [.long (Int32.toInt64 ((10 : Int32) - r4)), .long y3]) (h' := h) 2 rfl trivial ?_
          refine v_pick [0, 1, 2, 4] rfl ?_
          exact n71 x5 (Int32.toInt64 ((10 : Int32) - r4)) y3 hf
        · refine v_run C0 tbX2 cokX2_growthWeight (pc' := 51) (lv' := [(0, .ref a0), (1, .int x1), (2, .int x2), (3, .long y3), (5, .int x5)]) (st' := [.int x5, .ref (q_ref σ a0 6), .long y3]) (h' := h) 3 rfl ⟨⟨ta0, q_tn k0⟩, trivial⟩ ?_
          obtain ⟨r5, e5, hf⟩ := q_bd hf
          refine v_callSN C0 cokX2_growthWeight rfl (rest := [.long y3]) (ctX4_at (q_ref σ a0 6) x5 k0 e5) calX4_at lkX2_88 inX4_at dnX4_at rfl rfl ⟨by decide, by decide⟩ (Nat.le_of_ble_eq_true rfl) (Nat.le_refl _) (Nat.le_refl _) ?_
          refine v_run C0 tbX2 cokX2_growthWeight (pc' := 71) (lv' := [(0, .ref a0), (1, .int x1), (2, .int x2), (3, .long y3), (5, .int x5)]) (st' := [.long (Int32.toInt64 r5), .long y3]) (h' := h) 2 rfl trivial ?_
          refine v_pick [0, 1, 2, 4] rfl ?_
          exact n71 x5 (Int32.toInt64 r5) y3 hf
  have n13 : ∀ (s0 : Int64), fX2_growthWeight_13 σ h a0 x1 x2 s0 = some r → V p l e { frames := 1, cells := 0, slots := 0, locals := 21 } s m args below meth c (MQ below (q_Qc D cy b0 (some (.long r)) σ h) args s 0 0 (fun q => b0 ≤ q)) D cy b0 6 0 0 0 0 σ h 13 [(0, .ref a0), (1, .int x1), (2, .int x2)] [.long s0] := by
    intro s0 hf
    unfold fX2_growthWeight_13 at hf
    refine v_run C0 tbX2 cokX2_growthWeight (pc' := 17) (lv' := [(5, .int (0 : Int32)), (3, .long s0), (0, .ref a0), (1, .int x1), (2, .int x2)]) (st' := []) (h' := h) 3 rfl trivial ?_
    obtain ⟨o1, eo1, hf⟩ := q_bd hf
    refine v_pick [2, 3, 4, 1, 0] rfl ?_
    refine n17 o1 (s0, (0 : Int32)) eo1 ?_
    refine v_run C0 tbX2 cokX2_growthWeight (pc' := 80) (lv' := [(3, .long o1)]) (st' := [.long o1]) (h' := h) 1 rfl trivial ?_
    obtain rfl := Option.some.inj hf
    exact v_lret C0 cokX2_growthWeight hr hlk rfl
  refine v_run C0 tbX2 cokX2_growthWeight (pc' := 5) (lv' := [(0, .ref a0), (1, .int x1), (2, .int x2)]) (st' := [.int (x1 &&& (x2 ^^^ (-1 : Int32)))]) (h' := h) 5 rfl trivial ?_
  refine v_if_ne C0 cokX2_growthWeight rfl 12 (by decide) hf (fun _ hf => ?_) (fun _ hf => ?_)
  · refine v_run C0 tbX2 cokX2_growthWeight (pc' := 13) (lv' := [(0, .ref a0), (1, .int x1), (2, .int x2)]) (st' := [.long (1 : Int64)]) (h' := h) 2 rfl trivial ?_
    refine v_pick [0, 1, 2] rfl ?_
    exact n13 (1 : Int64) hf
  · refine v_run C0 tbX2 cokX2_growthWeight (pc' := 13) (lv' := [(0, .ref a0), (1, .int x1), (2, .int x2)]) (st' := [.long (0 : Int64)]) (h' := h) 1 rfl trivial ?_
    refine v_pick [0, 1, 2] rfl ?_
    exact n13 (0 : Int64) hf
-- BackByNoonOnMonday$Shop.leastFor(III)I
noncomputable def fX2_leastFor_35 (σ : q_St) (h : q_Hp) (a0 : Nat) (x1 : Int32) (x2 : Int32) (x3 : Int32) (x4 : Int32) : Option (Int32 ⊕ (Unit ⊕ Int32)) := some (Sum.inl (x4 + (1 : Int32)))
noncomputable def fX2_leastFor_3 (σ : q_St) (h : q_Hp) (a0 : Nat) (x1 : Int32) (x2 : Int32) (x3 : Int32) (x4 : Int32) : Option (Int32 ⊕ (Unit ⊕ Int32)) := (if (q_int h a0 11) ≤ x4 then some (Sum.inr (Sum.inl ())) else ((fX4_hasBit σ h x2 x4).bind fun r3 => (if r3 = 0 then fX2_leastFor_35 σ h a0 x1 x2 x3 x4 else ((fX2_canHire σ h a0 x4 x1 x3).bind fun r4 => (if r4 = 0 then fX2_leastFor_35 σ h a0 x1 x2 x3 x4 else some (Sum.inr (Sum.inr x4)))))))
noncomputable def fX2_leastFor (σ : q_St) (h : q_Hp) (a0 : Nat) (x1 : Int32) (x2 : Int32) (x3 : Int32) : Option Int32 := (q_loop (fun s => fX2_leastFor_3 σ h a0 x1 x2 x3 s) q_N (0 : Int32)).bind fun o1 => q_el o1 fun w2 => some (9 : Int32)
def cdX2_leastFor : q_Cd := [(0, .iconst 0), (1, .istore 4), (3, .iload 4), (5, .aload_n 0), (6, .getfield 52), (9, .if_icmp .ge 32), (12, .iload_n 2), (13, .iload 4), (15, .invokestatic 122), (18, .ifCond .eq 17), (21, .aload_n 0), (22, .iload 4), (24, .iload_n 1), (25, .iload_n 3), (26, .invokevirtual 92), (29, .ifCond .eq 6), (32, .iload 4), (34, .ireturn), (35, .iinc 4 1), (38, .goto (-35)), (41, .bipush 9), (43, .ireturn)]
set_option maxRecDepth 100000 in
theorem cokX2_leastFor : q_cok cX2_leastFor cdX2_leastFor := by unfold q_cok; decide +kernel
set_option maxRecDepth 100000 in
set_option maxHeartbeats 4000000 in
theorem ctX2_leastFor {l : Launch} {D : va_G} {cy : Nat → Nat} {b0 : Nat} {σ : q_St} {h : q_Hp} (a0 : Nat) (x1 : Int32) (x2 : Int32) (x3 : Int32) {r : Int32} (ta0 : q_tag σ a0 = 3) (hf : fX2_leastFor σ h a0 x1 x2 x3 = some r) : q_M l yX2_leastFor cX2_leastFor 5 (some .int) 3 68 0 0 D cy b0 σ h [.ref a0, .int x1, .int x2, .int x3] (some (.int r)) σ h := by
  unfold fX2_leastFor at hf
  refine q_enter (by decide) (Nat.le_of_ble_eq_true rfl) ?_
  intro p e s m args below meth c C0 hr hlk hnm
  replace C0 : VC p { frames := 3, cells := 0, slots := 0, locals := 68 } s m args meth c D cy b0 5 0 0 RX2 cX2_leastFor := C0
  have n3 : ∀ (o : (Unit ⊕ Int32)) (s1 : Int32), q_loop (fun s => fX2_leastFor_3 σ h a0 x1 x2 x3 s) q_N s1 = some o → (∀ w0 : Unit, Sum.inl w0 = o → V p l e { frames := 3, cells := 0, slots := 0, locals := 68 } s m args below meth c (MQ below (q_Qc D cy b0 (some (.int r)) σ h) args s 0 0 (fun q => b0 ≤ q)) D cy b0 5 0 0 0 0 σ h 41 [] []) → (∀ r0 : Int32, Sum.inr r0 = o → (some r0 : Option Int32) = some r) → V p l e { frames := 3, cells := 0, slots := 0, locals := 68 } s m args below meth c (MQ below (q_Qc D cy b0 (some (.int r)) σ h) args s 0 0 (fun q => b0 ≤ q)) D cy b0 5 0 0 0 0 σ h 3 [(0, .ref a0), (1, .int x1), (2, .int x2), (3, .int x3), (4, .int s1)] [] := by
    intro o s1 ho kx1 ke1
    refine q_loop_V (P := fun s0 => V p l e { frames := 3, cells := 0, slots := 0, locals := 68 } s m args below meth c (MQ below (q_Qc D cy b0 (some (.int r)) σ h) args s 0 0 (fun q => b0 ≤ q)) D cy b0 5 0 0 0 0 σ h 3 [(0, .ref a0), (1, .int x1), (2, .int x2), (3, .int x3), (4, .int s0)] []) (o := o) ?_ q_N s1 ho
    intro x4 z1 hf kb1 kr1
    replace hf : fX2_leastFor_3 σ h a0 x1 x2 x3 x4 = some z1 := hf
    unfold fX2_leastFor_3 at hf
    show V p l e { frames := 3, cells := 0, slots := 0, locals := 68 } s m args below meth c (MQ below (q_Qc D cy b0 (some (.int r)) σ h) args s 0 0 (fun q => b0 ≤ q)) D cy b0 5 0 0 0 0 σ h 3 [(0, .ref a0), (1, .int x1), (2, .int x2), (3, .int x3), (4, .int x4)] []
    have n35 : ∀ (x4 : Int32), fX2_leastFor_35 σ h a0 x1 x2 x3 x4 = some z1 → V p l e { frames := 3, cells := 0, slots := 0, locals := 68 } s m args below meth c (MQ below (q_Qc D cy b0 (some (.int r)) σ h) args s 0 0 (fun q => b0 ≤ q)) D cy b0 5 0 0 0 0 σ h 35 [(0, .ref a0), (1, .int x1), (2, .int x2), (3, .int x3), (4, .int x4)] [] := by
      intro x4 hf
      unfold fX2_leastFor_35 at hf
      refine v_run C0 tbX2 cokX2_leastFor (pc' := 3) (lv' := [(4, .int (x4 + (1 : Int32))), (0, .ref a0), (1, .int x1), (2, .int x2), (3, .int x3)]) (st' := []) (h' := h) 2 rfl trivial ?_
      obtain rfl := Option.some.inj hf
      refine v_pick [1, 2, 3, 4, 0] rfl ?_
      exact kb1 _ rfl
    refine v_run C0 tbX2 cokX2_leastFor (pc' := 9) (lv' := [(0, .ref a0), (1, .int x1), (2, .int x2), (3, .int x3), (4, .int x4)]) (st' := [.int (q_int h a0 11), .int x4]) (h' := h) 3 rfl ⟨ta0, trivial⟩ ?_
    refine v_icmp_ge C0 cokX2_leastFor rfl 41 (by decide) hf (fun _ hf => ?_) (fun _ hf => ?_)
    · obtain rfl := Option.some.inj hf
      refine v_pick [] rfl ?_
      exact kx1 _ (kr1 _ rfl)
    · refine v_run C0 tbX2 cokX2_leastFor (pc' := 15) (lv' := [(0, .ref a0), (1, .int x1), (2, .int x2), (3, .int x3), (4, .int x4)]) (st' := [.int x4, .int x2]) (h' := h) 2 rfl trivial ?_
      obtain ⟨r3, e3, hf⟩ := q_bd hf
      refine v_callSN C0 cokX2_leastFor rfl (rest := []) (ctX4_hasBit x2 x4 e3) calX4_hasBit lkX2_122 inX4_hasBit dnX4_hasBit rfl rfl ⟨by decide, by decide⟩ (Nat.le_of_ble_eq_true rfl) (Nat.le_refl _) (Nat.le_refl _) ?_
      refine v_if_eq C0 cokX2_leastFor rfl 35 (by decide) hf (fun _ hf => ?_) (fun _ hf => ?_)
      · refine v_pick [0, 1, 2, 3, 4] rfl ?_
        exact n35 x4 hf
      · refine v_run C0 tbX2 cokX2_leastFor (pc' := 26) (lv' := [(0, .ref a0), (1, .int x1), (2, .int x2), (3, .int x3), (4, .int x4)]) (st' := [.int x3, .int x1, .int x4, .ref a0]) (h' := h) 4 rfl trivial ?_
        obtain ⟨r4, e4, hf⟩ := q_bd hf
        refine v_callV C0 cokX2_leastFor rfl (rest := []) (ctX2_canHire a0 x4 x1 x3 ta0 e4) calX2_canHire lkX2_92 inX2_canHire dnX2_canHire (ci := 2) ⟨rfl, by decide⟩ ta0 rfl rfl ⟨by decide, by decide⟩ (Nat.le_of_ble_eq_true rfl) (Nat.le_refl _) (Nat.le_refl _) ?_
        refine v_if_eq C0 cokX2_leastFor rfl 35 (by decide) hf (fun _ hf => ?_) (fun _ hf => ?_)
        · refine v_pick [0, 1, 2, 3, 4] rfl ?_
          exact n35 x4 hf
        · refine v_run C0 tbX2 cokX2_leastFor (pc' := 34) (lv' := [(0, .ref a0), (1, .int x1), (2, .int x2), (3, .int x3), (4, .int x4)]) (st' := [.int x4]) (h' := h) 1 rfl trivial ?_
          obtain rfl := Option.some.inj hf
          have hf := ke1 _ (kr1 _ rfl)
          obtain rfl := Option.some.inj hf
          exact v_iret C0 cokX2_leastFor hr hlk rfl
  refine v_run C0 tbX2 cokX2_leastFor (pc' := 3) (lv' := [(4, .int (0 : Int32)), (0, .ref a0), (1, .int x1), (2, .int x2), (3, .int x3)]) (st' := []) (h' := h) 2 rfl trivial ?_
  obtain ⟨o1, eo1, hf⟩ := q_bd hf
  refine v_pick [1, 2, 3, 4, 0] rfl ?_
  refine n3 o1 (0 : Int32) eo1 (fun w2 hx => ?_) (fun r0 hx => ?_)
  · rw [← hx] at hf
    replace hf := q_el_l hf
    refine v_run C0 tbX2 cokX2_leastFor (pc' := 43) (lv' := []) (st' := [.int (9 : Int32)]) (h' := h) 1 rfl trivial ?_
    obtain rfl := Option.some.inj hf
    exact v_iret C0 cokX2_leastFor hr hlk rfl
  · rw [← hx] at hf
    exact hf
-- BackByNoonOnMonday$Shop.couldChange(II)Z
noncomputable def fX2_couldChange (σ : q_St) (h : q_Hp) (a0 : Nat) (x1 : Int32) (x2 : Int32) : Option Int32 := q_gu ((q_tag σ (q_ref σ a0 9) = 7)) (((fX4_at σ h (q_ref σ a0 9) x1).bind fun r1 => ((fX4_at σ h (q_ref σ a0 9) x2).bind fun r2 => (if r1 = (9 : Int32) then some (0 : Int32) else (if r2 = (9 : Int32) then some (0 : Int32) else ((fX2_isRightFor σ h a0 r1 x2).bind fun r3 => (if r3 = 0 then some (0 : Int32) else ((fX2_isRightFor σ h a0 r2 x1).bind fun r4 => (if r4 = 0 then some (0 : Int32) else some (1 : Int32))))))))))
def cdX2_couldChange : q_Cd := [(0, .aload_n 0), (1, .getfield 42), (4, .iload_n 1), (5, .invokestatic 88), (8, .istore_n 3), (9, .aload_n 0), (10, .getfield 42), (13, .iload_n 2), (14, .invokestatic 88), (17, .istore 4), (19, .iload_n 3), (20, .bipush 9), (22, .if_icmp .eq 33), (25, .iload 4), (27, .bipush 9), (29, .if_icmp .eq 26), (32, .aload_n 0), (33, .iload_n 3), (34, .iload_n 2), (35, .invokevirtual 98), (38, .ifCond .eq 17), (41, .aload_n 0), (42, .iload 4), (44, .iload_n 1), (45, .invokevirtual 98), (48, .ifCond .eq 7), (51, .iconst 1), (52, .goto 4), (55, .iconst 0), (56, .ireturn)]
set_option maxRecDepth 100000 in
theorem cokX2_couldChange : q_cok cX2_couldChange cdX2_couldChange := by unfold q_cok; decide +kernel
set_option maxRecDepth 100000 in
set_option maxHeartbeats 4000000 in
theorem ctX2_couldChange {l : Launch} {D : va_G} {cy : Nat → Nat} {b0 : Nat} {σ : q_St} {h : q_Hp} (a0 : Nat) (x1 : Int32) (x2 : Int32) {r : Int32} (ta0 : q_tag σ a0 = 3) (hf : fX2_couldChange σ h a0 x1 x2 = some r) : q_M l yX2_couldChange cX2_couldChange 5 (some .boolean) 2 45 0 0 D cy b0 σ h [.ref a0, .int x1, .int x2] (some (.int r)) σ h := by
  unfold fX2_couldChange at hf
  obtain ⟨k0, hf⟩ := q_gu_o hf
  refine q_enter (by decide) (Nat.le_of_ble_eq_true rfl) ?_
  intro p e s m args below meth c C0 hr hlk hnm
  replace C0 : VC p { frames := 2, cells := 0, slots := 0, locals := 45 } s m args meth c D cy b0 5 0 0 RX2 cX2_couldChange := C0
  refine v_run C0 tbX2 cokX2_couldChange (pc' := 5) (lv' := [(0, .ref a0), (1, .int x1), (2, .int x2)]) (st' := [.int x1, .ref (q_ref σ a0 9)]) (h' := h) 3 rfl ⟨⟨ta0, q_tn k0⟩, trivial⟩ ?_
  obtain ⟨r1, e1, hf⟩ := q_bd hf
  refine v_callSN C0 cokX2_couldChange rfl (rest := []) (ctX4_at (q_ref σ a0 9) x1 k0 e1) calX4_at lkX2_88 inX4_at dnX4_at rfl rfl ⟨by decide, by decide⟩ (Nat.le_of_ble_eq_true rfl) (Nat.le_refl _) (Nat.le_refl _) ?_
  refine v_run C0 tbX2 cokX2_couldChange (pc' := 14) (lv' := [(3, .int r1), (0, .ref a0), (1, .int x1), (2, .int x2)]) (st' := [.int x2, .ref (q_ref σ a0 9)]) (h' := h) 4 rfl ⟨⟨ta0, q_tn k0⟩, trivial⟩ ?_
  obtain ⟨r2, e2, hf⟩ := q_bd hf
  refine v_callSN C0 cokX2_couldChange rfl (rest := []) (ctX4_at (q_ref σ a0 9) x2 k0 e2) calX4_at lkX2_88 inX4_at dnX4_at rfl rfl ⟨by decide, by decide⟩ (Nat.le_of_ble_eq_true rfl) (Nat.le_refl _) (Nat.le_refl _) ?_
  refine v_run C0 tbX2 cokX2_couldChange (pc' := 22) (lv' := [(4, .int r2), (3, .int r1), (0, .ref a0), (1, .int x1), (2, .int x2)]) (st' := [.int (9 : Int32), .int r1]) (h' := h) 3 rfl trivial ?_
  refine v_icmp_eq C0 cokX2_couldChange rfl 55 (by decide) hf (fun _ hf => ?_) (fun _ hf => ?_)
  · refine v_run C0 tbX2 cokX2_couldChange (pc' := 56) (lv' := [(4, .int r2), (3, .int r1), (0, .ref a0), (1, .int x1), (2, .int x2)]) (st' := [.int (0 : Int32)]) (h' := h) 1 rfl trivial ?_
    obtain rfl := Option.some.inj hf
    exact v_zret C0 cokX2_couldChange hr hlk rfl (Or.inl rfl)
  · refine v_run C0 tbX2 cokX2_couldChange (pc' := 29) (lv' := [(4, .int r2), (3, .int r1), (0, .ref a0), (1, .int x1), (2, .int x2)]) (st' := [.int (9 : Int32), .int r2]) (h' := h) 2 rfl trivial ?_
    refine v_icmp_eq C0 cokX2_couldChange rfl 55 (by decide) hf (fun _ hf => ?_) (fun _ hf => ?_)
    · refine v_run C0 tbX2 cokX2_couldChange (pc' := 56) (lv' := [(4, .int r2), (3, .int r1), (0, .ref a0), (1, .int x1), (2, .int x2)]) (st' := [.int (0 : Int32)]) (h' := h) 1 rfl trivial ?_
      obtain rfl := Option.some.inj hf
      exact v_zret C0 cokX2_couldChange hr hlk rfl (Or.inl rfl)
    · refine v_run C0 tbX2 cokX2_couldChange (pc' := 35) (lv' := [(4, .int r2), (3, .int r1), (0, .ref a0), (1, .int x1), (2, .int x2)]) (st' := [.int x2, .int r1, .ref a0]) (h' := h) 3 rfl trivial ?_
      obtain ⟨r3, e3, hf⟩ := q_bd hf
      refine v_callV C0 cokX2_couldChange rfl (rest := []) (ctX2_isRightFor a0 r1 x2 ta0 e3) calX2_isRightFor lkX2_98 inX2_isRightFor dnX2_isRightFor (ci := 2) ⟨rfl, by decide⟩ ta0 rfl rfl ⟨by decide, by decide⟩ (Nat.le_of_ble_eq_true rfl) (Nat.le_refl _) (Nat.le_refl _) ?_
      refine v_if_eq C0 cokX2_couldChange rfl 55 (by decide) hf (fun _ hf => ?_) (fun _ hf => ?_)
      · refine v_run C0 tbX2 cokX2_couldChange (pc' := 56) (lv' := [(4, .int r2), (3, .int r1), (0, .ref a0), (1, .int x1), (2, .int x2)]) (st' := [.int (0 : Int32)]) (h' := h) 1 rfl trivial ?_
        obtain rfl := Option.some.inj hf
        exact v_zret C0 cokX2_couldChange hr hlk rfl (Or.inl rfl)
      · refine v_run C0 tbX2 cokX2_couldChange (pc' := 45) (lv' := [(4, .int r2), (3, .int r1), (0, .ref a0), (1, .int x1), (2, .int x2)]) (st' := [.int x1, .int r2, .ref a0]) (h' := h) 3 rfl trivial ?_
        obtain ⟨r4, e4, hf⟩ := q_bd hf
        refine v_callV C0 cokX2_couldChange rfl (rest := []) (ctX2_isRightFor a0 r2 x1 ta0 e4) calX2_isRightFor lkX2_98 inX2_isRightFor dnX2_isRightFor (ci := 2) ⟨rfl, by decide⟩ ta0 rfl rfl ⟨by decide, by decide⟩ (Nat.le_of_ble_eq_true rfl) (Nat.le_refl _) (Nat.le_refl _) ?_
        refine v_if_eq C0 cokX2_couldChange rfl 55 (by decide) hf (fun _ hf => ?_) (fun _ hf => ?_)
        · refine v_run C0 tbX2 cokX2_couldChange (pc' := 56) (lv' := [(4, .int r2), (3, .int r1), (0, .ref a0), (1, .int x1), (2, .int x2)]) (st' := [.int (0 : Int32)]) (h' := h) 1 rfl trivial ?_
          obtain rfl := Option.some.inj hf
          exact v_zret C0 cokX2_couldChange hr hlk rfl (Or.inl rfl)
        · refine v_run C0 tbX2 cokX2_couldChange (pc' := 56) (lv' := [(4, .int r2), (3, .int r1), (0, .ref a0), (1, .int x1), (2, .int x2)]) (st' := [.int (1 : Int32)]) (h' := h) 2 rfl trivial ?_
          obtain rfl := Option.some.inj hf
          exact v_zret C0 cokX2_couldChange hr hlk rfl (Or.inr rfl)
-- BackByNoonOnMonday$Shop.hoursOf(I)I
noncomputable def fX2_hoursOf_33 (σ : q_St) (h : q_Hp) (a0 : Nat) (x1 : Int32) (x3 : Int32) (s0 : Int32) (s1 : Int32) : Option ((Int32 × Int32) ⊕ Int32) := some (Sum.inl ((s1 + s0), (x3 + (1 : Int32))))
noncomputable def fX2_hoursOf_4 (σ : q_St) (h : q_Hp) (a0 : Nat) (x1 : Int32) (x2 : Int32) (x3 : Int32) : Option ((Int32 × Int32) ⊕ Int32) := (if (q_int h a0 11) ≤ x3 then some (Sum.inr x2) else ((fX4_hasBit σ h x1 x3).bind fun r2 => (if r2 = 0 then fX2_hoursOf_33 σ h a0 x1 x3 (0 : Int32) x2 else ((fX2_kindOf σ h a0 x3).bind fun r3 => q_gu ((q_tag σ r3 = 4)) (fX2_hoursOf_33 σ h a0 x1 x3 (q_int h r3 4) x2)))))
noncomputable def fX2_hoursOf (σ : q_St) (h : q_Hp) (a0 : Nat) (x1 : Int32) : Option Int32 := (q_loop (fun s => fX2_hoursOf_4 σ h a0 x1 s.1 s.2) q_N ((0 : Int32), (0 : Int32))).bind fun o1 => some o1
def cdX2_hoursOf : q_Cd := [(0, .iconst 0), (1, .istore_n 2), (2, .iconst 0), (3, .istore_n 3), (4, .iload_n 3), (5, .aload_n 0), (6, .getfield 52), (9, .if_icmp .ge 32), (12, .iload_n 2), (13, .iload_n 1), (14, .iload_n 3), (15, .invokestatic 122), (18, .ifCond .eq 14), (21, .aload_n 0), (22, .iload_n 3), (23, .invokevirtual 65), (26, .getfield 106), (29, .goto 4), (32, .iconst 0), (33, .iadd), (34, .istore_n 2), (35, .iinc 3 1), (38, .goto (-34)), (41, .iload_n 2), (42, .ireturn)]
set_option maxRecDepth 100000 in
theorem cokX2_hoursOf : q_cok cX2_hoursOf cdX2_hoursOf := by unfold q_cok; decide +kernel
set_option maxRecDepth 100000 in
set_option maxHeartbeats 4000000 in
theorem ctX2_hoursOf {l : Launch} {D : va_G} {cy : Nat → Nat} {b0 : Nat} {σ : q_St} {h : q_Hp} (a0 : Nat) (x1 : Int32) {r : Int32} (ta0 : q_tag σ a0 = 3) (hf : fX2_hoursOf σ h a0 x1 = some r) : q_M l yX2_hoursOf cX2_hoursOf 4 (some .int) 1 22 0 0 D cy b0 σ h [.ref a0, .int x1] (some (.int r)) σ h := by
  unfold fX2_hoursOf at hf
  refine q_enter (by decide) (Nat.le_of_ble_eq_true rfl) ?_
  intro p e s m args below meth c C0 hr hlk hnm
  replace C0 : VC p { frames := 1, cells := 0, slots := 0, locals := 22 } s m args meth c D cy b0 4 0 0 RX2 cX2_hoursOf := C0
  have n4 : ∀ (o : Int32) (s1 : (Int32 × Int32)), q_loop (fun s => fX2_hoursOf_4 σ h a0 x1 s.1 s.2) q_N s1 = some o → V p l e { frames := 1, cells := 0, slots := 0, locals := 22 } s m args below meth c (MQ below (q_Qc D cy b0 (some (.int r)) σ h) args s 0 0 (fun q => b0 ≤ q)) D cy b0 4 0 0 0 0 σ h 41 [(2, .int o)] [] → V p l e { frames := 1, cells := 0, slots := 0, locals := 22 } s m args below meth c (MQ below (q_Qc D cy b0 (some (.int r)) σ h) args s 0 0 (fun q => b0 ≤ q)) D cy b0 4 0 0 0 0 σ h 4 [(0, .ref a0), (1, .int x1), (2, .int s1.1), (3, .int s1.2)] [] := by
    intro o s1 ho kx1
    refine q_loop_V (P := fun s0 => V p l e { frames := 1, cells := 0, slots := 0, locals := 22 } s m args below meth c (MQ below (q_Qc D cy b0 (some (.int r)) σ h) args s 0 0 (fun q => b0 ≤ q)) D cy b0 4 0 0 0 0 σ h 4 [(0, .ref a0), (1, .int x1), (2, .int s0.1), (3, .int s0.2)] []) (o := o) ?_ q_N s1 ho
    intro s2 z1 hf kb1 kr1
    obtain ⟨x2, x3⟩ := s2
    replace hf : fX2_hoursOf_4 σ h a0 x1 x2 x3 = some z1 := hf
    unfold fX2_hoursOf_4 at hf
    show V p l e { frames := 1, cells := 0, slots := 0, locals := 22 } s m args below meth c (MQ below (q_Qc D cy b0 (some (.int r)) σ h) args s 0 0 (fun q => b0 ≤ q)) D cy b0 4 0 0 0 0 σ h 4 [(0, .ref a0), (1, .int x1), (2, .int x2), (3, .int x3)] []
    have n33 : ∀ (x3 : Int32) (s0 : Int32) (s1 : Int32), fX2_hoursOf_33 σ h a0 x1 x3 s0 s1 = some z1 → V p l e { frames := 1, cells := 0, slots := 0, locals := 22 } s m args below meth c (MQ below (q_Qc D cy b0 (some (.int r)) σ h) args s 0 0 (fun q => b0 ≤ q)) D cy b0 4 0 0 0 0 σ h 33 [(0, .ref a0), (1, .int x1), (3, .int x3)] [.int s0, .int s1] := by
      intro x3 s0 s1 hf
      unfold fX2_hoursOf_33 at hf
      refine v_run C0 tbX2 cokX2_hoursOf (pc' := 4) (lv' := [(3, .int (x3 + (1 : Int32))), (2, .int (s1 + s0)), (0, .ref a0), (1, .int x1)]) (st' := []) (h' := h) 4 rfl trivial ?_
      obtain rfl := Option.some.inj hf
      refine v_pick [2, 3, 1, 0] rfl ?_
      exact kb1 _ rfl
    refine v_run C0 tbX2 cokX2_hoursOf (pc' := 9) (lv' := [(0, .ref a0), (1, .int x1), (2, .int x2), (3, .int x3)]) (st' := [.int (q_int h a0 11), .int x3]) (h' := h) 3 rfl ⟨ta0, trivial⟩ ?_
    refine v_icmp_ge C0 cokX2_hoursOf rfl 41 (by decide) hf (fun _ hf => ?_) (fun _ hf => ?_)
    · obtain rfl := Option.some.inj hf
      refine v_pick [2] rfl ?_
      have hx := kr1 _ rfl
      subst hx
      exact kx1
    · refine v_run C0 tbX2 cokX2_hoursOf (pc' := 15) (lv' := [(0, .ref a0), (1, .int x1), (2, .int x2), (3, .int x3)]) (st' := [.int x3, .int x1, .int x2]) (h' := h) 3 rfl trivial ?_
      obtain ⟨r2, e2, hf⟩ := q_bd hf
      refine v_callSN C0 cokX2_hoursOf rfl (rest := [.int x2]) (ctX4_hasBit x1 x3 e2) calX4_hasBit lkX2_122 inX4_hasBit dnX4_hasBit rfl rfl ⟨by decide, by decide⟩ (Nat.le_of_ble_eq_true rfl) (Nat.le_refl _) (Nat.le_refl _) ?_
      refine v_if_eq C0 cokX2_hoursOf rfl 32 (by decide) hf (fun _ hf => ?_) (fun _ hf => ?_)
      · refine v_run C0 tbX2 cokX2_hoursOf (pc' := 33) (lv' := [(0, .ref a0), (1, .int x1), (2, .int x2), (3, .int x3)]) (st' := [.int (0 : Int32), .int x2]) (h' := h) 1 rfl trivial ?_
        refine v_pick [0, 1, 3] rfl ?_
        exact n33 x3 (0 : Int32) x2 hf
      · refine v_run C0 tbX2 cokX2_hoursOf (pc' := 23) (lv' := [(0, .ref a0), (1, .int x1), (2, .int x2), (3, .int x3)]) (st' := [.int x3, .ref a0, .int x2]) (h' := h) 2 rfl trivial ?_
        obtain ⟨r3, e3, hf⟩ := q_bd hf
        refine v_callV C0 cokX2_hoursOf rfl (rest := [.int x2]) (ctX2_kindOf a0 x3 ta0 e3) calX2_kindOf lkX2_65 inX2_kindOf dnX2_kindOf (ci := 2) ⟨rfl, by decide⟩ ta0 rfl rfl ⟨by decide, by decide⟩ (Nat.le_of_ble_eq_true rfl) (Nat.le_refl _) (Nat.le_refl _) ?_
        obtain ⟨g4, hf⟩ := q_gu_o hf
        refine v_run C0 tbX2 cokX2_hoursOf (pc' := 33) (lv' := [(0, .ref a0), (1, .int x1), (2, .int x2), (3, .int x3)]) (st' := [.int (q_int h r3 4), .int x2]) (h' := h) 2 rfl ⟨g4, trivial⟩ ?_
        refine v_pick [0, 1, 3] rfl ?_
        exact n33 x3 (q_int h r3 4) x2 hf
  refine v_run C0 tbX2 cokX2_hoursOf (pc' := 4) (lv' := [(3, .int (0 : Int32)), (2, .int (0 : Int32)), (0, .ref a0), (1, .int x1)]) (st' := []) (h' := h) 4 rfl trivial ?_
  obtain ⟨o1, eo1, hf⟩ := q_bd hf
  refine v_pick [2, 3, 1, 0] rfl ?_
  refine n4 o1 ((0 : Int32), (0 : Int32)) eo1 ?_
  refine v_run C0 tbX2 cokX2_hoursOf (pc' := 42) (lv' := [(2, .int o1)]) (st' := [.int o1]) (h' := h) 1 rfl trivial ?_
  obtain rfl := Option.some.inj hf
  exact v_iret C0 cokX2_hoursOf hr hlk rfl
-- BackByNoonOnMonday$Shop.allWorn()I
noncomputable def fX2_allWorn_4 (σ : q_St) (h : q_Hp) (a0 : Nat) (x1 : Int32) (x2 : Int32) : Option ((Int32 × Int32) ⊕ Int32) := (if (q_int h a0 11) ≤ x2 then some (Sum.inr x1) else ((fX4_at σ h (q_ref σ a0 2) x2).bind fun r2 => some (Sum.inl ((x1 + r2), (x2 + (1 : Int32))))))
noncomputable def fX2_allWorn (σ : q_St) (h : q_Hp) (a0 : Nat) : Option Int32 := q_gu ((q_tag σ (q_ref σ a0 2) = 7)) ((q_loop (fun s => fX2_allWorn_4 σ h a0 s.1 s.2) q_N ((0 : Int32), (0 : Int32))).bind fun o1 => some o1)
def cdX2_allWorn : q_Cd := [(0, .iconst 0), (1, .istore_n 1), (2, .iconst 0), (3, .istore_n 2), (4, .iload_n 2), (5, .aload_n 0), (6, .getfield 52), (9, .if_icmp .ge 20), (12, .iload_n 1), (13, .aload_n 0), (14, .getfield 21), (17, .iload_n 2), (18, .invokestatic 88), (21, .iadd), (22, .istore_n 1), (23, .iinc 2 1), (26, .goto (-22)), (29, .iload_n 1), (30, .ireturn)]
set_option maxRecDepth 100000 in
theorem cokX2_allWorn : q_cok cX2_allWorn cdX2_allWorn := by unfold q_cok; decide +kernel
set_option maxRecDepth 100000 in
set_option maxHeartbeats 4000000 in
theorem ctX2_allWorn {l : Launch} {D : va_G} {cy : Nat → Nat} {b0 : Nat} {σ : q_St} {h : q_Hp} (a0 : Nat) {r : Int32} (ta0 : q_tag σ a0 = 3) (hf : fX2_allWorn σ h a0 = some r) : q_M l yX2_allWorn cX2_allWorn 3 (some .int) 1 21 0 0 D cy b0 σ h [.ref a0] (some (.int r)) σ h := by
  unfold fX2_allWorn at hf
  obtain ⟨k0, hf⟩ := q_gu_o hf
  refine q_enter (by decide) (Nat.le_of_ble_eq_true rfl) ?_
  intro p e s m args below meth c C0 hr hlk hnm
  replace C0 : VC p { frames := 1, cells := 0, slots := 0, locals := 21 } s m args meth c D cy b0 3 0 0 RX2 cX2_allWorn := C0
  have n4 : ∀ (o : Int32) (s1 : (Int32 × Int32)), q_loop (fun s => fX2_allWorn_4 σ h a0 s.1 s.2) q_N s1 = some o → V p l e { frames := 1, cells := 0, slots := 0, locals := 21 } s m args below meth c (MQ below (q_Qc D cy b0 (some (.int r)) σ h) args s 0 0 (fun q => b0 ≤ q)) D cy b0 3 0 0 0 0 σ h 29 [(1, .int o)] [] → V p l e { frames := 1, cells := 0, slots := 0, locals := 21 } s m args below meth c (MQ below (q_Qc D cy b0 (some (.int r)) σ h) args s 0 0 (fun q => b0 ≤ q)) D cy b0 3 0 0 0 0 σ h 4 [(0, .ref a0), (1, .int s1.1), (2, .int s1.2)] [] := by
    intro o s1 ho kx1
    refine q_loop_V (P := fun s0 => V p l e { frames := 1, cells := 0, slots := 0, locals := 21 } s m args below meth c (MQ below (q_Qc D cy b0 (some (.int r)) σ h) args s 0 0 (fun q => b0 ≤ q)) D cy b0 3 0 0 0 0 σ h 4 [(0, .ref a0), (1, .int s0.1), (2, .int s0.2)] []) (o := o) ?_ q_N s1 ho
    intro s2 z1 hf kb1 kr1
    obtain ⟨x1, x2⟩ := s2
    replace hf : fX2_allWorn_4 σ h a0 x1 x2 = some z1 := hf
    unfold fX2_allWorn_4 at hf
    show V p l e { frames := 1, cells := 0, slots := 0, locals := 21 } s m args below meth c (MQ below (q_Qc D cy b0 (some (.int r)) σ h) args s 0 0 (fun q => b0 ≤ q)) D cy b0 3 0 0 0 0 σ h 4 [(0, .ref a0), (1, .int x1), (2, .int x2)] []
    refine v_run C0 tbX2 cokX2_allWorn (pc' := 9) (lv' := [(0, .ref a0), (1, .int x1), (2, .int x2)]) (st' := [.int (q_int h a0 11), .int x2]) (h' := h) 3 rfl ⟨ta0, trivial⟩ ?_
    refine v_icmp_ge C0 cokX2_allWorn rfl 29 (by decide) hf (fun _ hf => ?_) (fun _ hf => ?_)
    · obtain rfl := Option.some.inj hf
      refine v_pick [1] rfl ?_
      have hx := kr1 _ rfl
      subst hx
      exact kx1
    · refine v_run C0 tbX2 cokX2_allWorn (pc' := 18) (lv' := [(0, .ref a0), (1, .int x1), (2, .int x2)]) (st' := [.int x2, .ref (q_ref σ a0 2), .int x1]) (h' := h) 4 rfl ⟨⟨ta0, q_tn k0⟩, trivial⟩ ?_
      obtain ⟨r2, e2, hf⟩ := q_bd hf
      refine v_callSN C0 cokX2_allWorn rfl (rest := [.int x1]) (ctX4_at (q_ref σ a0 2) x2 k0 e2) calX4_at lkX2_88 inX4_at dnX4_at rfl rfl ⟨by decide, by decide⟩ (Nat.le_of_ble_eq_true rfl) (Nat.le_refl _) (Nat.le_refl _) ?_
      refine v_run C0 tbX2 cokX2_allWorn (pc' := 4) (lv' := [(2, .int (x2 + (1 : Int32))), (1, .int (x1 + r2)), (0, .ref a0)]) (st' := []) (h' := h) 4 rfl trivial ?_
      obtain rfl := Option.some.inj hf
      refine v_pick [2, 1, 0] rfl ?_
      exact kb1 _ rfl
  refine v_run C0 tbX2 cokX2_allWorn (pc' := 4) (lv' := [(2, .int (0 : Int32)), (1, .int (0 : Int32)), (0, .ref a0)]) (st' := []) (h' := h) 4 rfl trivial ?_
  obtain ⟨o1, eo1, hf⟩ := q_bd hf
  refine v_pick [2, 1, 0] rfl ?_
  refine n4 o1 ((0 : Int32), (0 : Int32)) eo1 ?_
  refine v_run C0 tbX2 cokX2_allWorn (pc' := 30) (lv' := [(1, .int o1)]) (st' := [.int o1]) (h' := h) 1 rfl trivial ?_
  obtain rfl := Option.some.inj hf
  exact v_iret C0 cokX2_allWorn hr hlk rfl
-- BackByNoonOnMonday.isShelf(I)Z
noncomputable def fX4_isShelf (σ : q_St) (h : q_Hp) (x0 : Int32) : Option Int32 := ((fX4_isIn σ h x0 (0 : Int32) (7 : Int32)).bind fun r1 => q_gu ((r1 = 0 ∨ r1 = 1)) (some r1))
def cdX4_isShelf : q_Cd := [(0, .iload_n 0), (1, .iconst 0), (2, .bipush 7), (4, .invokestatic 148), (7, .ireturn)]
set_option maxRecDepth 100000 in
theorem cokX4_isShelf : q_cok cX4_isShelf cdX4_isShelf := by unfold q_cok; decide +kernel
set_option maxRecDepth 100000 in
set_option maxHeartbeats 4000000 in
theorem ctX4_isShelf {l : Launch} {D : va_G} {cy : Nat → Nat} {b0 : Nat} {σ : q_St} {h : q_Hp} (x0 : Int32) {r : Int32} (hf : fX4_isShelf σ h x0 = some r) : q_M l yX4_isShelf cX4_isShelf 1 (some .boolean) 1 22 0 0 D cy b0 σ h [.int x0] (some (.int r)) σ h := by
  unfold fX4_isShelf at hf
  refine q_enter (by decide) (Nat.le_of_ble_eq_true rfl) ?_
  intro p e s m args below meth c C0 hr hlk hnm
  replace C0 : VC p { frames := 1, cells := 0, slots := 0, locals := 22 } s m args meth c D cy b0 1 0 0 RX4 cX4_isShelf := C0
  refine v_run C0 tbX4 cokX4_isShelf (pc' := 4) (lv' := [(0, .int x0)]) (st' := [.int (7 : Int32), .int (0 : Int32), .int x0]) (h' := h) 3 rfl trivial ?_
  obtain ⟨r1, e1, hf⟩ := q_bd hf
  refine v_callS C0 cokX4_isShelf rfl (rest := []) (ctX4_isIn x0 (0 : Int32) (7 : Int32) e1) calX4_isIn lkX4_148 inX4_isIn dnX4_isIn rfl rfl ⟨by decide, by decide⟩ (Nat.le_of_ble_eq_true rfl) (Nat.le_refl _) (Nat.le_refl _) ?_
  obtain ⟨g2, hf⟩ := q_gu_o hf
  obtain rfl := Option.some.inj hf
  exact v_zret C0 cokX4_isShelf hr hlk rfl g2
-- BackByNoonOnMonday.shelfAt(I)LBackByNoonOnMonday$Shelf;
noncomputable def fX4_shelfAt (σ : q_St) (h : q_Hp) (a0 : Nat) (x1 : Int32) : Option Nat := q_gu ((q_tag σ (q_ref σ a0 5) = 2) ∧ (q_tag σ (q_ref σ a0 4) = 9)) ((if x1 < 0 then some (q_ref σ a0 5) else (if x1 < (Int32.ofNat (q_len σ (q_ref σ a0 4))) then q_gu ((vp_in x1 (q_len σ (q_ref σ a0 4)))) ((if (q_ref σ (q_ref σ a0 4) (Int32.toNatClampNeg x1)) = 0 then some (q_ref σ a0 5) else some (q_ref σ (q_ref σ a0 4) (Int32.toNatClampNeg x1)))) else some (q_ref σ a0 5))))
def cdX4_shelfAt : q_Cd := [(0, .iload_n 1), (1, .ifCond .lt 12), (4, .iload_n 1), (5, .aload_n 0), (6, .getfield 28), (9, .arraylength), (10, .if_icmp .lt 8), (13, .aload_n 0), (14, .getfield 33), (17, .areturn), (18, .aload_n 0), (19, .getfield 28), (22, .iload_n 1), (23, .aaload), (24, .astore_n 2), (25, .aload_n 2), (26, .ifnonnull 10), (29, .aload_n 0), (30, .getfield 33), (33, .goto 4), (36, .aload_n 2), (37, .areturn)]
set_option maxRecDepth 100000 in
theorem cokX4_shelfAt : q_cok cX4_shelfAt cdX4_shelfAt := by unfold q_cok; decide +kernel
set_option maxRecDepth 100000 in
set_option maxHeartbeats 4000000 in
theorem ctX4_shelfAt {l : Launch} {D : va_G} {cy : Nat → Nat} {b0 : Nat} {σ : q_St} {h : q_Hp} (a0 : Nat) (x1 : Int32) {r : Nat} (ta0 : q_tag σ a0 = 5) (hf : fX4_shelfAt σ h a0 x1 = some r) : q_M l yX4_shelfAt cX4_shelfAt 3 (some (.object "BackByNoonOnMonday$Shelf")) 0 0 0 0 D cy b0 σ h [.ref a0, .int x1] (some (.ref r)) σ h := by
  unfold fX4_shelfAt at hf
  obtain ⟨⟨k0, k1⟩, hf⟩ := q_gu_o hf
  refine q_enter (by decide) (Nat.le_of_ble_eq_true rfl) ?_
  intro p e s m args below meth c C0 hr hlk hnm
  replace C0 : VC p { frames := 0, cells := 0, slots := 0, locals := 0 } s m args meth c D cy b0 3 0 0 RX4 cX4_shelfAt := C0
  refine v_run C0 tbX4 cokX4_shelfAt (pc' := 1) (lv' := [(0, .ref a0), (1, .int x1)]) (st' := [.int x1]) (h' := h) 1 rfl trivial ?_
  refine v_if_lt C0 cokX4_shelfAt rfl 13 (by decide) hf (fun _ hf => ?_) (fun _ hf => ?_)
  · refine v_run C0 tbX4 cokX4_shelfAt (pc' := 17) (lv' := [(0, .ref a0), (1, .int x1)]) (st' := [.ref (q_ref σ a0 5)]) (h' := h) 2 rfl ⟨⟨ta0, q_tn k0⟩, trivial⟩ ?_
    obtain rfl := Option.some.inj hf
    exact v_aret C0 cokX4_shelfAt hr hlk rfl
  · refine v_run C0 tbX4 cokX4_shelfAt (pc' := 10) (lv' := [(0, .ref a0), (1, .int x1)]) (st' := [.int (Int32.ofNat (q_len σ (q_ref σ a0 4))), .int x1]) (h' := h) 4 rfl ⟨⟨ta0, q_tn k1⟩, (Or.inr (Or.inr (Or.inl k1))), trivial⟩ ?_
    refine v_icmp_lt C0 cokX4_shelfAt rfl 18 (by decide) hf (fun _ hf => ?_) (fun _ hf => ?_)
    · refine v_run C0 tbX4 cokX4_shelfAt (pc' := 23) (lv' := [(0, .ref a0), (1, .int x1)]) (st' := [.int x1, .ref (q_ref σ a0 4)]) (h' := h) 3 rfl ⟨⟨ta0, q_tn k1⟩, trivial⟩ ?_
      obtain ⟨g1, hf⟩ := q_gu_o hf
      refine v_aald C0 cokX4_shelfAt rfl (Or.inl k1) g1 hf (fun _ hf => ?_) (fun _ hf => ?_)
      · refine v_run C0 tbX4 cokX4_shelfAt (pc' := 37) (lv' := [(2, .null), (0, .ref a0), (1, .int x1)]) (st' := [.ref (q_ref σ a0 5)]) (h' := h) 6 rfl ⟨⟨ta0, q_tn k0⟩, trivial⟩ ?_
        obtain rfl := Option.some.inj hf
        exact v_aret C0 cokX4_shelfAt hr hlk rfl
      · refine v_run C0 tbX4 cokX4_shelfAt (pc' := 37) (lv' := [(2, .ref (q_ref σ (q_ref σ a0 4) (Int32.toNatClampNeg x1))), (0, .ref a0), (1, .int x1)]) (st' := [.ref (q_ref σ (q_ref σ a0 4) (Int32.toNatClampNeg x1))]) (h' := h) 4 rfl trivial ?_
        obtain rfl := Option.some.inj hf
        exact v_aret C0 cokX4_shelfAt hr hlk rfl
    · refine v_run C0 tbX4 cokX4_shelfAt (pc' := 17) (lv' := [(0, .ref a0), (1, .int x1)]) (st' := [.ref (q_ref σ a0 5)]) (h' := h) 2 rfl ⟨⟨ta0, q_tn k0⟩, trivial⟩ ?_
      obtain rfl := Option.some.inj hf
      exact v_aret C0 cokX4_shelfAt hr hlk rfl
-- BackByNoonOnMonday.digitsBehind(I)I
noncomputable def fX4_digitsBehind (σ : q_St) (h : q_Hp) (x0 : Int32) : Option Int32 := (if x0 = (98 : Int32) then some (6 : Int32) else (if x0 = (99 : Int32) then some (1 : Int32) else (if x0 = (104 : Int32) then some (2 : Int32) else (if x0 = (114 : Int32) then some (1 : Int32) else (if x0 = (115 : Int32) then some (6 : Int32) else some (-1 : Int32))))))
def cdX4_digitsBehind : q_Cd := [(0, .iload_n 0), (52, .bipush 6), (54, .ireturn), (55, .iconst 2), (56, .ireturn), (57, .iconst 1), (58, .ireturn), (59, .iconst (-1)), (60, .ireturn)]
set_option maxRecDepth 100000 in
theorem cokX4_digitsBehind : q_cok cX4_digitsBehind cdX4_digitsBehind := by unfold q_cok; decide +kernel
theorem dswX4_digitsBehind_1 : decode cX4_digitsBehind 1 = .ok (.lookupswitch 58 #[(98, 51), (99, 56), (104, 54), (114, 56), (115, 51)], 51) := by decide +kernel
set_option maxRecDepth 100000 in
set_option maxHeartbeats 4000000 in
theorem ctX4_digitsBehind {l : Launch} {D : va_G} {cy : Nat → Nat} {b0 : Nat} {σ : q_St} {h : q_Hp} (x0 : Int32) {r : Int32} (hf : fX4_digitsBehind σ h x0 = some r) : q_M l yX4_digitsBehind cX4_digitsBehind 1 (some .int) 0 0 0 0 D cy b0 σ h [.int x0] (some (.int r)) σ h := by
  unfold fX4_digitsBehind at hf
  refine q_enter (by decide) (Nat.le_of_ble_eq_true rfl) ?_
  intro p e s m args below meth c C0 hr hlk hnm
  replace C0 : VC p { frames := 0, cells := 0, slots := 0, locals := 0 } s m args meth c D cy b0 1 0 0 RX4 cX4_digitsBehind := C0
  refine v_run C0 tbX4 cokX4_digitsBehind (pc' := 1) (lv' := [(0, .int x0)]) (st' := [.int x0]) (h' := h) 1 rfl trivial ?_
  rcases q_ite hf with ⟨d1, hf⟩ | ⟨d1, hf⟩
  · refine v_lkI C0 dswX4_digitsBehind_1 d1 52 (by decide +kernel) (by decide +kernel) ?_
    refine v_run C0 tbX4 cokX4_digitsBehind (pc' := 54) (lv' := [(0, .int x0)]) (st' := [.int (6 : Int32)]) (h' := h) 1 rfl trivial ?_
    obtain rfl := Option.some.inj hf
    exact v_iret C0 cokX4_digitsBehind hr hlk rfl
  · rcases q_ite hf with ⟨d2, hf⟩ | ⟨d2, hf⟩
    · refine v_lkI C0 dswX4_digitsBehind_1 d2 57 (by decide +kernel) (by decide +kernel) ?_
      refine v_run C0 tbX4 cokX4_digitsBehind (pc' := 58) (lv' := [(0, .int x0)]) (st' := [.int (1 : Int32)]) (h' := h) 1 rfl trivial ?_
      obtain rfl := Option.some.inj hf
      exact v_iret C0 cokX4_digitsBehind hr hlk rfl
    · rcases q_ite hf with ⟨d3, hf⟩ | ⟨d3, hf⟩
      · refine v_lkI C0 dswX4_digitsBehind_1 d3 55 (by decide +kernel) (by decide +kernel) ?_
        refine v_run C0 tbX4 cokX4_digitsBehind (pc' := 56) (lv' := [(0, .int x0)]) (st' := [.int (2 : Int32)]) (h' := h) 1 rfl trivial ?_
        obtain rfl := Option.some.inj hf
        exact v_iret C0 cokX4_digitsBehind hr hlk rfl
      · rcases q_ite hf with ⟨d4, hf⟩ | ⟨d4, hf⟩
        · refine v_lkI C0 dswX4_digitsBehind_1 d4 57 (by decide +kernel) (by decide +kernel) ?_
          refine v_run C0 tbX4 cokX4_digitsBehind (pc' := 58) (lv' := [(0, .int x0)]) (st' := [.int (1 : Int32)]) (h' := h) 1 rfl trivial ?_
          obtain rfl := Option.some.inj hf
          exact v_iret C0 cokX4_digitsBehind hr hlk rfl
        · rcases q_ite hf with ⟨d5, hf⟩ | ⟨d5, hf⟩
          · refine v_lkI C0 dswX4_digitsBehind_1 d5 52 (by decide +kernel) (by decide +kernel) ?_
            refine v_run C0 tbX4 cokX4_digitsBehind (pc' := 54) (lv' := [(0, .int x0)]) (st' := [.int (6 : Int32)]) (h' := h) 1 rfl trivial ?_
            obtain rfl := Option.some.inj hf
            exact v_iret C0 cokX4_digitsBehind hr hlk rfl
          · refine v_lkO C0 dswX4_digitsBehind_1 59 [98, 99, 104, 114, 115] rfl (by decide +kernel) (by decide +kernel) (fun k hk hx => ?_) ?_
            · simp only [List.mem_cons, List.not_mem_nil, or_false] at hk
              rcases hk with rfl | rfl | rfl | rfl | rfl
              · exact d1 (Int32.toInt_inj.mp hx)
              · exact d2 (Int32.toInt_inj.mp hx)
              · exact d3 (Int32.toInt_inj.mp hx)
              · exact d4 (Int32.toInt_inj.mp hx)
              · exact d5 (Int32.toInt_inj.mp hx)
            · refine v_run C0 tbX4 cokX4_digitsBehind (pc' := 60) (lv' := [(0, .int x0)]) (st' := [.int (-1 : Int32)]) (h' := h) 1 rfl trivial ?_
              obtain rfl := Option.some.inj hf
              exact v_iret C0 cokX4_digitsBehind hr hlk rfl
-- BackByNoonOnMonday.firstBadByte(LBackByNoonOnMonday$Shelf;)I
noncomputable def fX4_firstBadByte_28 (σ : q_St) (h : q_Hp) (a0 : Nat) (x1 : Int32) (x2 : Int32) (x3 : Int32) (x4 : Int32) : Option (Int32 ⊕ (Unit ⊕ ((Int32 × Int32) ⊕ (Int32 ⊕ Int32)))) := (if x3 < x4 then some (Sum.inr (Sum.inl ())) else ((fX1_byteAt σ h a0 (x1 + x4)).bind fun r8 => ((fX4_isIn σ h r8 (48 : Int32) (57 : Int32)).bind fun r9 => (if r9 = 0 then some (Sum.inr (Sum.inr (Sum.inr (Sum.inr (x1 + x4))))) else some (Sum.inl (x4 + (1 : Int32)))))))
noncomputable def fX4_firstBadByte_4 (σ : q_St) (h : q_Hp) (a0 : Nat) (x1 : Int32) (x2 : Int32) : Option ((Int32 × Int32) ⊕ (Int32 ⊕ Int32)) := (if (100 : Int32) < x2 then some (Sum.inr (Sum.inl x1)) else ((fX1_byteAt σ h a0 x1).bind fun r3 => ((fX4_digitsBehind σ h r3).bind fun r4 => (if 0 ≤ r4 then (q_loop (fun s => fX4_firstBadByte_28 σ h a0 x1 x2 r4 s) q_N (1 : Int32)).bind fun o5 => q_el o5 fun w6 => ((fX1_byteAt σ h a0 (x1 + (r4 + (1 : Int32)))).bind fun r7 => (if r7 = (59 : Int32) then (if ((x1 + (r4 + (1 : Int32))) + (1 : Int32)) < (q_int h a0 4) then some (Sum.inl (((x1 + (r4 + (1 : Int32))) + (1 : Int32)), (x2 + (1 : Int32)))) else some (Sum.inr (Sum.inr (-1 : Int32)))) else some (Sum.inr (Sum.inr (x1 + (r4 + (1 : Int32))))))) else some (Sum.inr (Sum.inr x1))))))
noncomputable def fX4_firstBadByte (σ : q_St) (h : q_Hp) (a0 : Nat) : Option Int32 := (q_loop (fun s => fX4_firstBadByte_4 σ h a0 s.1 s.2) q_N ((0 : Int32), (0 : Int32))).bind fun o1 => q_el o1 fun w2 => some w2
def cdX4_firstBadByte : q_Cd := [(0, .iconst 0), (1, .istore_n 1), (2, .iconst 0), (3, .istore_n 2), (4, .iload_n 2), (5, .bipush 100), (7, .if_icmp .gt 93), (10, .aload_n 0), (11, .iload_n 1), (12, .invokevirtual 369), (15, .invokestatic 372), (18, .istore_n 3), (19, .iload_n 3), (20, .ifCond .ge 5), (23, .iload_n 1), (24, .ireturn), (25, .iconst 1), (26, .istore 4), (28, .iload 4), (30, .iload_n 3), (31, .if_icmp .gt 32), (34, .aload_n 0), (35, .iload_n 1), (36, .iload 4), (38, .iadd), (39, .invokevirtual 369), (42, .bipush 48), (44, .bipush 57), (46, .invokestatic 148), (49, .ifCond .ne 8), (52, .iload_n 1), (53, .iload 4), (55, .iadd), (56, .ireturn), (57, .iinc 4 1), (60, .goto (-32)), (63, .iload_n 1), (64, .iload_n 3), (65, .iconst 1), (66, .iadd), (67, .iadd), (68, .istore_n 1), (69, .aload_n 0), (70, .iload_n 1), (71, .invokevirtual 369), (74, .bipush 59), (76, .if_icmp .eq 5), (79, .iload_n 1), (80, .ireturn), (81, .iinc 1 1), (84, .iload_n 1), (85, .aload_n 0), (86, .getfield 292), (89, .if_icmp .lt 5), (92, .iconst (-1)), (93, .ireturn), (94, .iinc 2 1), (97, .goto (-93)), (100, .iload_n 1), (101, .ireturn)]
set_option maxRecDepth 100000 in
theorem cokX4_firstBadByte : q_cok cX4_firstBadByte cdX4_firstBadByte := by unfold q_cok; decide +kernel
set_option maxRecDepth 100000 in
set_option maxHeartbeats 4000000 in
theorem ctX4_firstBadByte {l : Launch} {D : va_G} {cy : Nat → Nat} {b0 : Nat} {σ : q_St} {h : q_Hp} (a0 : Nat) {r : Int32} (ta0 : q_tag σ a0 = 2) (hf : fX4_firstBadByte σ h a0 = some r) : q_M l yX4_firstBadByte cX4_firstBadByte 5 (some .int) 2 42 0 0 D cy b0 σ h [.ref a0] (some (.int r)) σ h := by
  unfold fX4_firstBadByte at hf
  refine q_enter (by decide) (Nat.le_of_ble_eq_true rfl) ?_
  intro p e s m args below meth c C0 hr hlk hnm
  replace C0 : VC p { frames := 2, cells := 0, slots := 0, locals := 42 } s m args meth c D cy b0 5 0 0 RX4 cX4_firstBadByte := C0
  have n4 : ∀ (o : (Int32 ⊕ Int32)) (s1 : (Int32 × Int32)), q_loop (fun s => fX4_firstBadByte_4 σ h a0 s.1 s.2) q_N s1 = some o → (∀ w0 : Int32, Sum.inl w0 = o → V p l e { frames := 2, cells := 0, slots := 0, locals := 42 } s m args below meth c (MQ below (q_Qc D cy b0 (some (.int r)) σ h) args s 0 0 (fun q => b0 ≤ q)) D cy b0 5 0 0 0 0 σ h 100 [(1, .int w0)] []) → (∀ r0 : Int32, Sum.inr r0 = o → (some r0 : Option Int32) = some r) → V p l e { frames := 2, cells := 0, slots := 0, locals := 42 } s m args below meth c (MQ below (q_Qc D cy b0 (some (.int r)) σ h) args s 0 0 (fun q => b0 ≤ q)) D cy b0 5 0 0 0 0 σ h 4 [(0, .ref a0), (1, .int s1.1), (2, .int s1.2)] [] := by
    intro o s1 ho kx1 ke1
    refine q_loop_V (P := fun s0 => V p l e { frames := 2, cells := 0, slots := 0, locals := 42 } s m args below meth c (MQ below (q_Qc D cy b0 (some (.int r)) σ h) args s 0 0 (fun q => b0 ≤ q)) D cy b0 5 0 0 0 0 σ h 4 [(0, .ref a0), (1, .int s0.1), (2, .int s0.2)] []) (o := o) ?_ q_N s1 ho
    intro s2 z1 hf kb1 kr1
    obtain ⟨x1, x2⟩ := s2
    replace hf : fX4_firstBadByte_4 σ h a0 x1 x2 = some z1 := hf
    unfold fX4_firstBadByte_4 at hf
    show V p l e { frames := 2, cells := 0, slots := 0, locals := 42 } s m args below meth c (MQ below (q_Qc D cy b0 (some (.int r)) σ h) args s 0 0 (fun q => b0 ≤ q)) D cy b0 5 0 0 0 0 σ h 4 [(0, .ref a0), (1, .int x1), (2, .int x2)] []
    have n28 : ∀ (x1 : Int32) (x2 : Int32) (x3 : Int32) (o : (Unit ⊕ ((Int32 × Int32) ⊕ (Int32 ⊕ Int32)))) (s1 : Int32), q_loop (fun s => fX4_firstBadByte_28 σ h a0 x1 x2 x3 s) q_N s1 = some o → (∀ w0 : Unit, Sum.inl w0 = o → V p l e { frames := 2, cells := 0, slots := 0, locals := 42 } s m args below meth c (MQ below (q_Qc D cy b0 (some (.int r)) σ h) args s 0 0 (fun q => b0 ≤ q)) D cy b0 5 0 0 0 0 σ h 63 [(0, .ref a0), (1, .int x1), (2, .int x2), (3, .int x3)] []) → (∀ r0 : ((Int32 × Int32) ⊕ (Int32 ⊕ Int32)), Sum.inr r0 = o → (some r0 : Option ((Int32 × Int32) ⊕ (Int32 ⊕ Int32))) = some z1) → V p l e { frames := 2, cells := 0, slots := 0, locals := 42 } s m args below meth c (MQ below (q_Qc D cy b0 (some (.int r)) σ h) args s 0 0 (fun q => b0 ≤ q)) D cy b0 5 0 0 0 0 σ h 28 [(0, .ref a0), (1, .int x1), (2, .int x2), (3, .int x3), (4, .int s1)] [] := by
      intro x1 x2 x3 o s1 ho kx2 ke2
      refine q_loop_V (P := fun s0 => V p l e { frames := 2, cells := 0, slots := 0, locals := 42 } s m args below meth c (MQ below (q_Qc D cy b0 (some (.int r)) σ h) args s 0 0 (fun q => b0 ≤ q)) D cy b0 5 0 0 0 0 σ h 28 [(0, .ref a0), (1, .int x1), (2, .int x2), (3, .int x3), (4, .int s0)] []) (o := o) ?_ q_N s1 ho
      intro x4 z2 hf kb2 kr2
      replace hf : fX4_firstBadByte_28 σ h a0 x1 x2 x3 x4 = some z2 := hf
      unfold fX4_firstBadByte_28 at hf
      show V p l e { frames := 2, cells := 0, slots := 0, locals := 42 } s m args below meth c (MQ below (q_Qc D cy b0 (some (.int r)) σ h) args s 0 0 (fun q => b0 ≤ q)) D cy b0 5 0 0 0 0 σ h 28 [(0, .ref a0), (1, .int x1), (2, .int x2), (3, .int x3), (4, .int x4)] []
      refine v_run C0 tbX4 cokX4_firstBadByte (pc' := 31) (lv' := [(0, .ref a0), (1, .int x1), (2, .int x2), (3, .int x3), (4, .int x4)]) (st' := [.int x3, .int x4]) (h' := h) 2 rfl trivial ?_
      refine v_icmp_gt C0 cokX4_firstBadByte rfl 63 (by decide) hf (fun _ hf => ?_) (fun _ hf => ?_)
      · obtain rfl := Option.some.inj hf
        refine v_pick [0, 1, 2, 3] rfl ?_
        exact kx2 _ (kr2 _ rfl)
      · refine v_run C0 tbX4 cokX4_firstBadByte (pc' := 39) (lv' := [(0, .ref a0), (1, .int x1), (2, .int x2), (3, .int x3), (4, .int x4)]) (st' := [.int (x1 + x4), .ref a0]) (h' := h) 4 rfl trivial ?_
        obtain ⟨r8, e8, hf⟩ := q_bd hf
        refine v_callV C0 cokX4_firstBadByte rfl (rest := []) (ctX1_byteAt a0 (x1 + x4) ta0 e8) calX1_byteAt lkX4_369 inX1_byteAt dnX1_byteAt (ci := 1) ⟨rfl, by decide⟩ ta0 rfl rfl ⟨by decide, by decide⟩ (Nat.le_of_ble_eq_true rfl) (Nat.le_refl _) (Nat.le_refl _) ?_
        refine v_run C0 tbX4 cokX4_firstBadByte (pc' := 46) (lv' := [(0, .ref a0), (1, .int x1), (2, .int x2), (3, .int x3), (4, .int x4)]) (st' := [.int (57 : Int32), .int (48 : Int32), .int r8]) (h' := h) 2 rfl trivial ?_
        obtain ⟨r9, e9, hf⟩ := q_bd hf
        refine v_callS C0 cokX4_firstBadByte rfl (rest := []) (ctX4_isIn r8 (48 : Int32) (57 : Int32) e9) calX4_isIn lkX4_148 inX4_isIn dnX4_isIn rfl rfl ⟨by decide, by decide⟩ (Nat.le_of_ble_eq_true rfl) (Nat.le_refl _) (Nat.le_refl _) ?_
        refine v_if_ne C0 cokX4_firstBadByte rfl 57 (by decide) hf (fun _ hf => ?_) (fun _ hf => ?_)
        · refine v_run C0 tbX4 cokX4_firstBadByte (pc' := 56) (lv' := [(0, .ref a0), (1, .int x1), (2, .int x2), (3, .int x3), (4, .int x4)]) (st' := [.int (x1 + x4)]) (h' := h) 3 rfl trivial ?_
          obtain rfl := Option.some.inj hf
          have hf := ke2 _ (kr2 _ rfl)
          obtain rfl := Option.some.inj hf
          have hf := ke1 _ (kr1 _ rfl)
          obtain rfl := Option.some.inj hf
          exact v_iret C0 cokX4_firstBadByte hr hlk rfl
        · refine v_run C0 tbX4 cokX4_firstBadByte (pc' := 28) (lv' := [(4, .int (x4 + (1 : Int32))), (0, .ref a0), (1, .int x1), (2, .int x2), (3, .int x3)]) (st' := []) (h' := h) 2 rfl trivial ?_
          obtain rfl := Option.some.inj hf
          refine v_pick [1, 2, 3, 4, 0] rfl ?_
          exact kb2 _ rfl
    refine v_run C0 tbX4 cokX4_firstBadByte (pc' := 7) (lv' := [(0, .ref a0), (1, .int x1), (2, .int x2)]) (st' := [.int (100 : Int32), .int x2]) (h' := h) 2 rfl trivial ?_
    refine v_icmp_gt C0 cokX4_firstBadByte rfl 100 (by decide) hf (fun _ hf => ?_) (fun _ hf => ?_)
    · obtain rfl := Option.some.inj hf
      refine v_pick [1] rfl ?_
      exact kx1 _ (kr1 _ rfl)
    · refine v_run C0 tbX4 cokX4_firstBadByte (pc' := 12) (lv' := [(0, .ref a0), (1, .int x1), (2, .int x2)]) (st' := [.int x1, .ref a0]) (h' := h) 2 rfl trivial ?_
      obtain ⟨r3, e3, hf⟩ := q_bd hf
      refine v_callV C0 cokX4_firstBadByte rfl (rest := []) (ctX1_byteAt a0 x1 ta0 e3) calX1_byteAt lkX4_369 inX1_byteAt dnX1_byteAt (ci := 1) ⟨rfl, by decide⟩ ta0 rfl rfl ⟨by decide, by decide⟩ (Nat.le_of_ble_eq_true rfl) (Nat.le_refl _) (Nat.le_refl _) ?_
      obtain ⟨r4, e4, hf⟩ := q_bd hf
      refine v_callS C0 cokX4_firstBadByte rfl (rest := []) (ctX4_digitsBehind r3 e4) calX4_digitsBehind lkX4_372 inX4_digitsBehind dnX4_digitsBehind rfl rfl ⟨by decide, by decide⟩ (Nat.le_of_ble_eq_true rfl) (Nat.le_refl _) (Nat.le_refl _) ?_
      refine v_run C0 tbX4 cokX4_firstBadByte (pc' := 20) (lv' := [(3, .int r4), (0, .ref a0), (1, .int x1), (2, .int x2)]) (st' := [.int r4]) (h' := h) 2 rfl trivial ?_
      refine v_if_ge C0 cokX4_firstBadByte rfl 25 (by decide) hf (fun _ hf => ?_) (fun _ hf => ?_)
      · refine v_run C0 tbX4 cokX4_firstBadByte (pc' := 28) (lv' := [(4, .int (1 : Int32)), (3, .int r4), (0, .ref a0), (1, .int x1), (2, .int x2)]) (st' := []) (h' := h) 2 rfl trivial ?_
        obtain ⟨o5, eo5, hf⟩ := q_bd hf
        refine v_pick [2, 3, 4, 1, 0] rfl ?_
        refine n28 x1 x2 r4 o5 (1 : Int32) eo5 (fun w6 hx => ?_) (fun r0 hx => ?_)
        · rw [← hx] at hf
          replace hf := q_el_l hf
          refine v_run C0 tbX4 cokX4_firstBadByte (pc' := 71) (lv' := [(1, .int (x1 + (r4 + (1 : Int32)))), (0, .ref a0), (2, .int x2), (3, .int r4)]) (st' := [.int (x1 + (r4 + (1 : Int32))), .ref a0]) (h' := h) 8 rfl trivial ?_
          obtain ⟨r7, e7, hf⟩ := q_bd hf
          refine v_callV C0 cokX4_firstBadByte rfl (rest := []) (ctX1_byteAt a0 (x1 + (r4 + (1 : Int32))) ta0 e7) calX1_byteAt lkX4_369 inX1_byteAt dnX1_byteAt (ci := 1) ⟨rfl, by decide⟩ ta0 rfl rfl ⟨by decide, by decide⟩ (Nat.le_of_ble_eq_true rfl) (Nat.le_refl _) (Nat.le_refl _) ?_
          refine v_run C0 tbX4 cokX4_firstBadByte (pc' := 76) (lv' := [(1, .int (x1 + (r4 + (1 : Int32)))), (0, .ref a0), (2, .int x2), (3, .int r4)]) (st' := [.int (59 : Int32), .int r7]) (h' := h) 1 rfl trivial ?_
          refine v_icmp_eq C0 cokX4_firstBadByte rfl 81 (by decide) hf (fun _ hf => ?_) (fun _ hf => ?_)
          · refine v_run C0 tbX4 cokX4_firstBadByte (pc' := 89) (lv' := [(1, .int ((x1 + (r4 + (1 : Int32))) + (1 : Int32))), (0, .ref a0), (2, .int x2), (3, .int r4)]) (st' := [.int (q_int h a0 4), .int ((x1 + (r4 + (1 : Int32))) + (1 : Int32))]) (h' := h) 4 rfl ⟨ta0, trivial⟩ ?_
            refine v_icmp_lt C0 cokX4_firstBadByte rfl 94 (by decide) hf (fun _ hf => ?_) (fun _ hf => ?_)
            · refine v_run C0 tbX4 cokX4_firstBadByte (pc' := 4) (lv' := [(2, .int (x2 + (1 : Int32))), (1, .int ((x1 + (r4 + (1 : Int32))) + (1 : Int32))), (0, .ref a0), (3, .int r4)]) (st' := []) (h' := h) 2 rfl trivial ?_
              obtain rfl := Option.some.inj hf
              refine v_pick [2, 1, 0] rfl ?_
              exact kb1 _ rfl
            · refine v_run C0 tbX4 cokX4_firstBadByte (pc' := 93) (lv' := [(1, .int ((x1 + (r4 + (1 : Int32))) + (1 : Int32))), (0, .ref a0), (2, .int x2), (3, .int r4)]) (st' := [.int (-1 : Int32)]) (h' := h) 1 rfl trivial ?_
              obtain rfl := Option.some.inj hf
              have hf := ke1 _ (kr1 _ rfl)
              obtain rfl := Option.some.inj hf
              exact v_iret C0 cokX4_firstBadByte hr hlk rfl
          · refine v_run C0 tbX4 cokX4_firstBadByte (pc' := 80) (lv' := [(1, .int (x1 + (r4 + (1 : Int32)))), (0, .ref a0), (2, .int x2), (3, .int r4)]) (st' := [.int (x1 + (r4 + (1 : Int32)))]) (h' := h) 1 rfl trivial ?_
            obtain rfl := Option.some.inj hf
            have hf := ke1 _ (kr1 _ rfl)
            obtain rfl := Option.some.inj hf
            exact v_iret C0 cokX4_firstBadByte hr hlk rfl
        · rw [← hx] at hf
          exact hf
      · refine v_run C0 tbX4 cokX4_firstBadByte (pc' := 24) (lv' := [(3, .int r4), (0, .ref a0), (1, .int x1), (2, .int x2)]) (st' := [.int x1]) (h' := h) 1 rfl trivial ?_
        obtain rfl := Option.some.inj hf
        have hf := ke1 _ (kr1 _ rfl)
        obtain rfl := Option.some.inj hf
        exact v_iret C0 cokX4_firstBadByte hr hlk rfl
  refine v_run C0 tbX4 cokX4_firstBadByte (pc' := 4) (lv' := [(2, .int (0 : Int32)), (1, .int (0 : Int32)), (0, .ref a0)]) (st' := []) (h' := h) 4 rfl trivial ?_
  obtain ⟨o1, eo1, hf⟩ := q_bd hf
  refine v_pick [2, 1, 0] rfl ?_
  refine n4 o1 ((0 : Int32), (0 : Int32)) eo1 (fun w2 hx => ?_) (fun r0 hx => ?_)
  · rw [← hx] at hf
    replace hf := q_el_l hf
    refine v_run C0 tbX4 cokX4_firstBadByte (pc' := 101) (lv' := [(1, .int w2)]) (st' := [.int w2]) (h' := h) 1 rfl trivial ?_
    obtain rfl := Option.some.inj hf
    exact v_iret C0 cokX4_firstBadByte hr hlk rfl
  · rw [← hx] at hf
    exact hf
-- BackByNoonOnMonday.tellSuit(LBackByNoonOnMonday$Shop;LBackByNoonOnMonday$Shelf;I)I
noncomputable def fX4_tellSuit (σ : q_St) (h : q_Hp) (a0 : Nat) (a1 : Nat) (x2 : Int32) : Option (Int32 × q_St × q_Hp) := ((fX1_number σ h a1 (x2 + (1 : Int32)) (1 : Int32)).bind fun r1 => ((fX1_number σ h a1 (x2 + (3 : Int32)) (2 : Int32)).bind fun r2 => (if (8 : Int32) ≤ r1 then some ((-1 : Int32), σ, h) else (if r2 ≤ (20 : Int32) then q_gu ((q_tag (q_nw σ 4 0) a1 = 2)) (((fX1_number (q_nw σ 4 0) (q_nh h (q_sz σ)) a1 (x2 + (2 : Int32)) (1 : Int32)).bind fun r4 => ((fX3_init (q_nw σ 4 0) (q_nh h (q_sz σ)) (q_sz σ) r1 r4).bind fun h5 => ((fX1_number (q_nw σ 4 0) h5 a1 (x2 + (5 : Int32)) (2 : Int32)).bind fun r6 => q_gu ((q_tag (q_nw σ 4 0) a0 = 3)) ((q_b3 (fX2_addSuit (q_nw σ 4 0) h5 a0 (q_sz σ) r2 r6) fun r8 σ8 h8 => some (r8, σ8, h8))))))) else some ((-1 : Int32), σ, h)))))
def cdX4_tellSuit : q_Cd := [(0, .aload_n 1), (1, .iload_n 2), (2, .iconst 1), (3, .iadd), (4, .iconst 1), (5, .invokevirtual 379), (8, .istore_n 3), (9, .aload_n 1), (10, .iload_n 2), (11, .iconst 3), (12, .iadd), (13, .iconst 2), (14, .invokevirtual 379), (17, .istore 4), (19, .iload_n 3), (20, .bipush 8), (22, .if_icmp .ge 10), (25, .iload 4), (27, .bipush 20), (29, .if_icmp .le 5), (32, .iconst (-1)), (33, .ireturn), (34, .aload_n 0), (35, .new 37), (38, .dup), (39, .iload_n 3), (40, .aload_n 1), (41, .iload_n 2), (42, .iconst 2), (43, .iadd), (44, .iconst 1), (45, .invokevirtual 379), (48, .invokespecial 43), (51, .iload 4), (53, .aload_n 1), (54, .iload_n 2), (55, .iconst 5), (56, .iadd), (57, .iconst 2), (58, .invokevirtual 379), (61, .invokevirtual 159), (64, .ireturn)]
set_option maxRecDepth 100000 in
theorem cokX4_tellSuit : q_cok cX4_tellSuit cdX4_tellSuit := by unfold q_cok; decide +kernel
set_option maxRecDepth 100000 in
set_option maxHeartbeats 4000000 in
theorem ctX4_tellSuit {l : Launch} {D : va_G} {cy : Nat → Nat} {b0 : Nat} {σ : q_St} {h : q_Hp} (a0 : Nat) (a1 : Nat) (x2 : Int32) {r : Int32} {σ' : q_St} {h' : q_Hp} (ta0 : q_tag σ a0 = 3) (ta1 : q_tag σ a1 = 2) (hf : fX4_tellSuit σ h a0 a1 x2 = some (r, σ', h')) : q_M l yX4_tellSuit cX4_tellSuit 5 (some .int) 3 66 1 7 D cy b0 σ h [.ref a0, .ref a1, .int x2] (some (.int r)) σ' h' := by
  unfold fX4_tellSuit at hf
  refine q_enter (by decide) (Nat.le_of_ble_eq_true rfl) ?_
  intro p e s m args below meth c C0 hr hlk hnm
  replace C0 : VC p { frames := 3, cells := 1, slots := 7, locals := 66 } s m args meth c D cy b0 5 1 7 RX4 cX4_tellSuit := C0
  refine v_run C0 tbX4 cokX4_tellSuit (pc' := 5) (lv' := [(0, .ref a0), (1, .ref a1), (2, .int x2)]) (st' := [.int (1 : Int32), .int (x2 + (1 : Int32)), .ref a1]) (h' := h) 5 rfl trivial ?_
  obtain ⟨r1, e1, hf⟩ := q_bd hf
  refine v_callV C0 cokX4_tellSuit rfl (rest := []) (ctX1_number a1 (x2 + (1 : Int32)) (1 : Int32) ta1 e1) calX1_number lkX4_379 inX1_number dnX1_number (ci := 1) ⟨rfl, by decide⟩ ta1 rfl rfl ⟨by decide, by decide⟩ (Nat.le_of_ble_eq_true rfl) (Nat.le_refl _) (Nat.le_refl _) ?_
  refine v_run C0 tbX4 cokX4_tellSuit (pc' := 14) (lv' := [(3, .int r1), (0, .ref a0), (1, .ref a1), (2, .int x2)]) (st' := [.int (2 : Int32), .int (x2 + (3 : Int32)), .ref a1]) (h' := h) 6 rfl trivial ?_
  obtain ⟨r2, e2, hf⟩ := q_bd hf
  refine v_callV C0 cokX4_tellSuit rfl (rest := []) (ctX1_number a1 (x2 + (3 : Int32)) (2 : Int32) ta1 e2) calX1_number lkX4_379 inX1_number dnX1_number (ci := 1) ⟨rfl, by decide⟩ ta1 rfl rfl ⟨by decide, by decide⟩ (Nat.le_of_ble_eq_true rfl) (Nat.le_refl _) (Nat.le_refl _) ?_
  refine v_run C0 tbX4 cokX4_tellSuit (pc' := 22) (lv' := [(4, .int r2), (3, .int r1), (0, .ref a0), (1, .ref a1), (2, .int x2)]) (st' := [.int (8 : Int32), .int r1]) (h' := h) 3 rfl trivial ?_
  refine v_icmp_ge C0 cokX4_tellSuit rfl 32 (by decide) hf (fun _ hf => ?_) (fun _ hf => ?_)
  · refine v_run C0 tbX4 cokX4_tellSuit (pc' := 33) (lv' := [(4, .int r2), (3, .int r1), (0, .ref a0), (1, .ref a1), (2, .int x2)]) (st' := [.int (-1 : Int32)]) (h' := h) 1 rfl trivial ?_
    obtain ⟨hq1, hq2⟩ := Prod.mk.inj (Option.some.inj hf)
    obtain ⟨hq3, hq4⟩ := Prod.mk.inj hq2
    subst hq1
    subst hq3
    subst hq4
    exact v_iret C0 cokX4_tellSuit hr hlk rfl
  · refine v_run C0 tbX4 cokX4_tellSuit (pc' := 29) (lv' := [(4, .int r2), (3, .int r1), (0, .ref a0), (1, .ref a1), (2, .int x2)]) (st' := [.int (20 : Int32), .int r2]) (h' := h) 2 rfl trivial ?_
    refine v_icmp_le C0 cokX4_tellSuit rfl 34 (by decide) hf (fun _ hf => ?_) (fun _ hf => ?_)
    · refine v_run C0 tbX4 cokX4_tellSuit (pc' := 35) (lv' := [(4, .int r2), (3, .int r1), (0, .ref a0), (1, .ref a1), (2, .int x2)]) (st' := [.ref a0]) (h' := h) 1 rfl trivial ?_
      refine v_less (kc' := 0 + 1) (ks' := 0 + 7) (by omega) (by omega) ?_
      refine v_new (kc := 0) (ks := 0) (nn := 7) (ci := 3) C0 cokX4_tellSuit rfl (by decide) nwcX4_37 nwiX3 nwnX3 rfl ?_
      refine v_run C0 tbX4 cokX4_tellSuit (pc' := 45) (lv' := [(4, .int r2), (3, .int r1), (0, .ref a0), (1, .ref a1), (2, .int x2)]) (st' := [.int (1 : Int32), .int (x2 + (2 : Int32)), .ref a1, .int r1, .ref (q_sz σ), .ref (q_sz σ), .ref a0]) (h' := (q_nh h (q_sz σ))) 7 rfl trivial ?_
      obtain ⟨g3, hf⟩ := q_gu_o hf
      obtain ⟨r4, e4, hf⟩ := q_bd hf
      refine v_callV C0 cokX4_tellSuit rfl (rest := [.int r1, .ref (q_sz σ), .ref (q_sz σ), .ref a0]) (ctX1_number a1 (x2 + (2 : Int32)) (1 : Int32) g3 e4) calX1_number lkX4_379 inX1_number dnX1_number (ci := 1) ⟨rfl, by decide⟩ g3 rfl rfl ⟨by decide, by decide⟩ (Nat.le_of_ble_eq_true rfl) (Nat.le_refl _) (Nat.le_refl _) ?_
      obtain ⟨h5, e5, hf⟩ := q_bd hf
      refine v_callI C0 cokX4_tellSuit rfl (rest := [.ref (q_sz σ), .ref a0]) (ctX3_init (q_sz σ) r1 r4 (q_tnew _ _ _) e5) calX3_init rfl lkX4_43 inX3_init dnX3_init rfl rfl ⟨by decide, by decide⟩ (Nat.le_of_ble_eq_true rfl) (Nat.le_refl _) (Nat.le_refl _) ?_
      refine v_run C0 tbX4 cokX4_tellSuit (pc' := 58) (lv' := [(4, .int r2), (3, .int r1), (0, .ref a0), (1, .ref a1), (2, .int x2)]) (st' := [.int (2 : Int32), .int (x2 + (5 : Int32)), .ref a1, .int r2, .ref (q_sz σ), .ref a0]) (h' := h5) 6 rfl trivial ?_
      obtain ⟨r6, e6, hf⟩ := q_bd hf
      refine v_callV C0 cokX4_tellSuit rfl (rest := [.int r2, .ref (q_sz σ), .ref a0]) (ctX1_number a1 (x2 + (5 : Int32)) (2 : Int32) g3 e6) calX1_number lkX4_379 inX1_number dnX1_number (ci := 1) ⟨rfl, by decide⟩ g3 rfl rfl ⟨by decide, by decide⟩ (Nat.le_of_ble_eq_true rfl) (Nat.le_refl _) (Nat.le_refl _) ?_
      obtain ⟨g7, hf⟩ := q_gu_o hf
      obtain ⟨r8, σ8, h8, e8, hf⟩ := q_bd3 hf
      refine v_callV C0 cokX4_tellSuit rfl (rest := []) (ctX2_addSuit a0 (q_sz σ) r2 r6 g7 (q_tnew _ _ _) e8) calX2_addSuit lkX4_159 inX2_addSuit dnX2_addSuit (ci := 2) ⟨rfl, by decide⟩ g7 rfl rfl ⟨by decide, by decide⟩ (Nat.le_of_ble_eq_true rfl) (Nat.le_refl _) (Nat.le_refl _) ?_
      obtain ⟨hq1, hq2⟩ := Prod.mk.inj (Option.some.inj hf)
      obtain ⟨hq3, hq4⟩ := Prod.mk.inj hq2
      subst hq1
      subst hq3
      subst hq4
      exact v_iret C0 cokX4_tellSuit hr hlk rfl
    · refine v_run C0 tbX4 cokX4_tellSuit (pc' := 33) (lv' := [(4, .int r2), (3, .int r1), (0, .ref a0), (1, .ref a1), (2, .int x2)]) (st' := [.int (-1 : Int32)]) (h' := h) 1 rfl trivial ?_
      obtain ⟨hq1, hq2⟩ := Prod.mk.inj (Option.some.inj hf)
      obtain ⟨hq3, hq4⟩ := Prod.mk.inj hq2
      subst hq1
      subst hq3
      subst hq4
      exact v_iret C0 cokX4_tellSuit hr hlk rfl
