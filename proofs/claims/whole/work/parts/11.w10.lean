-- BackByNoonOnMondayModel.suit(II)I
noncomputable def fX5_suit (σ : q_St) (h : q_Hp) (a0 : Nat) (x1 : Int32) (x2 : Int32) : Option (Int32 × q_Hp) := q_gu ((q_tag σ (q_ref σ a0 1) = 7) ∧ (q_tag σ (q_ref σ a0 2) = 7) ∧ (q_tag σ (q_ref σ a0 3) = 7) ∧ (q_tag σ (q_ref σ a0 4) = 7) ∧ (q_tag σ (q_ref σ a0 5) = 7)) (((fX5_isSuit σ (q_si h a0 21 (0 : Int32)) a0 x1).bind fun r1 => (if r1 = 0 then some ((-1 : Int32), (q_si h a0 21 (0 : Int32))) else (if x2 = (0 : Int32) then q_gu ((vp_in x1 (q_len σ (q_ref σ a0 1)))) (some ((q_int (q_si h a0 21 (0 : Int32)) (q_ref σ a0 1) (Int32.toNatClampNeg x1)), (q_si h a0 21 (0 : Int32)))) else (if x2 = (1 : Int32) then q_gu ((vp_in x1 (q_len σ (q_ref σ a0 2)))) (some ((q_int (q_si h a0 21 (0 : Int32)) (q_ref σ a0 2) (Int32.toNatClampNeg x1)), (q_si h a0 21 (0 : Int32)))) else (if x2 = (2 : Int32) then q_gu ((vp_in x1 (q_len σ (q_ref σ a0 3)))) (some ((q_int (q_si h a0 21 (0 : Int32)) (q_ref σ a0 3) (Int32.toNatClampNeg x1)), (q_si h a0 21 (0 : Int32)))) else (if x2 = (3 : Int32) then q_gu ((vp_in x1 (q_len σ (q_ref σ a0 4)))) (some ((q_int (q_si h a0 21 (0 : Int32)) (q_ref σ a0 4) (Int32.toNatClampNeg x1)), (q_si h a0 21 (0 : Int32)))) else (if x2 = (4 : Int32) then q_gu ((vp_in x1 (q_len σ (q_ref σ a0 5)))) (some ((q_int (q_si h a0 21 (0 : Int32)) (q_ref σ a0 5) (Int32.toNatClampNeg x1)), (q_si h a0 21 (0 : Int32)))) else (if x2 = (5 : Int32) then ((fX5_priceOf σ (q_si h a0 21 (0 : Int32)) a0 x1).bind fun r12 => some (r12, (q_si h a0 21 (0 : Int32)))) else (if x2 = (6 : Int32) then ((fX5_givesOf σ (q_si h a0 21 (0 : Int32)) a0 x1).bind fun r14 => some (r14, (q_si h a0 21 (0 : Int32)))) else (if x2 = (7 : Int32) then ((fX5_cleansOf σ (q_si h a0 21 (0 : Int32)) a0 x1).bind fun r16 => some (r16, (q_si h a0 21 (0 : Int32)))) else (if x2 = (8 : Int32) then ((fX5_lastsOf σ (q_si h a0 21 (0 : Int32)) a0 x1).bind fun r18 => some (r18, (q_si h a0 21 (0 : Int32)))) else some ((-1 : Int32), (q_si h a0 21 (0 : Int32)))))))))))))))
def cdX5_suit : q_Cd := [(0, .aload_n 0), (1, .iconst 0), (2, .putfield 89), (5, .aload_n 0), (6, .iload_n 1), (7, .invokevirtual 169), (10, .ifCond .ne 5), (13, .iconst (-1)), (14, .ireturn), (15, .iload_n 2), (68, .aload_n 0), (69, .getfield 7), (72, .iload_n 1), (73, .iaload), (74, .ireturn), (75, .aload_n 0), (76, .getfield 13), (79, .iload_n 1), (80, .iaload), (81, .ireturn), (82, .aload_n 0), (83, .getfield 16), (86, .iload_n 1), (87, .iaload), (88, .ireturn), (89, .aload_n 0), (90, .getfield 19), (93, .iload_n 1), (94, .iaload), (95, .ireturn), (96, .aload_n 0), (97, .getfield 22), (100, .iload_n 1), (101, .iaload), (102, .ireturn), (103, .aload_n 0), (104, .iload_n 1), (105, .invokevirtual 121), (108, .ireturn), (109, .aload_n 0), (110, .iload_n 1), (111, .invokevirtual 110), (114, .ireturn), (115, .aload_n 0), (116, .iload_n 1), (117, .invokevirtual 130), (120, .ireturn), (121, .aload_n 0), (122, .iload_n 1), (123, .invokevirtual 226), (126, .ireturn), (127, .iconst (-1)), (128, .ireturn)]
set_option maxRecDepth 100000 in
theorem cokX5_suit : q_cok cX5_suit cdX5_suit := by unfold q_cok; decide +kernel
theorem dswX5_suit_16 : decode cX5_suit 16 = .ok (.tableswitch 111 0 8 #[52, 59, 66, 73, 80, 87, 93, 99, 105], 52) := by decide +kernel
set_option maxRecDepth 100000 in
set_option maxHeartbeats 4000000 in
theorem ctX5_suit {l : Launch} {D : va_G} {cy : Nat → Nat} {b0 : Nat} {σ : q_St} {h : q_Hp} (a0 : Nat) (x1 : Int32) (x2 : Int32) {r : Int32} {h' : q_Hp} (ta0 : q_tag σ a0 = 6) (hf : fX5_suit σ h a0 x1 x2 = some (r, h')) : q_M l yX5_suit cX5_suit 3 (some .int) 2 46 0 0 D cy b0 σ h [.ref a0, .int x1, .int x2] (some (.int r)) σ h' := by
  unfold fX5_suit at hf
  obtain ⟨⟨k0, k1, k2, k3, k4⟩, hf⟩ := q_gu_o hf
  refine q_enter (by decide) (Nat.le_of_ble_eq_true rfl) ?_
  intro p e s m args below meth c C0 hr hlk hnm
  replace C0 : VC p { frames := 2, cells := 0, slots := 0, locals := 46 } s m args meth c D cy b0 3 0 0 RX5 cX5_suit := C0
  refine v_run C0 tbX5 cokX5_suit (pc' := 7) (lv' := [(0, .ref a0), (1, .int x1), (2, .int x2)]) (st' := [.int x1, .ref a0]) (h' := (q_si h a0 21 (0 : Int32))) 5 rfl ⟨ta0, trivial⟩ ?_
  obtain ⟨r1, e1, hf⟩ := q_bd hf
  refine v_callV C0 cokX5_suit rfl (rest := []) (ctX5_isSuit a0 x1 ta0 e1) calX5_isSuit lkX5_169 inX5_isSuit dnX5_isSuit (ci := 5) ⟨rfl, by decide⟩ ta0 rfl rfl ⟨by decide, by decide⟩ (Nat.le_of_ble_eq_true rfl) (Nat.le_refl _) (Nat.le_refl _) ?_
  refine v_if_ne C0 cokX5_suit rfl 15 (by decide) hf (fun _ hf => ?_) (fun _ hf => ?_)
  · refine v_run C0 tbX5 cokX5_suit (pc' := 14) (lv' := [(0, .ref a0), (1, .int x1), (2, .int x2)]) (st' := [.int (-1 : Int32)]) (h' := (q_si h a0 21 (0 : Int32))) 1 rfl trivial ?_
    obtain ⟨rfl, rfl⟩ := Prod.mk.inj (Option.some.inj hf)
    exact v_iret C0 cokX5_suit hr hlk rfl
  · refine v_run C0 tbX5 cokX5_suit (pc' := 16) (lv' := [(0, .ref a0), (1, .int x1), (2, .int x2)]) (st' := [.int x2]) (h' := (q_si h a0 21 (0 : Int32))) 1 rfl trivial ?_
    rcases q_ite hf with ⟨d3, hf⟩ | ⟨d3, hf⟩
    · refine v_tabI C0 dswX5_suit_16 d3 68 (by decide +kernel) (by decide +kernel) ?_
      obtain ⟨g2, hf⟩ := q_gu_o hf
      refine v_run C0 tbX5 cokX5_suit (pc' := 74) (lv' := [(0, .ref a0), (1, .int x1), (2, .int x2)]) (st' := [.int (q_int (q_si h a0 21 (0 : Int32)) (q_ref σ a0 1) (Int32.toNatClampNeg x1))]) (h' := (q_si h a0 21 (0 : Int32))) 4 rfl ⟨⟨ta0, q_tn k0⟩, ⟨k0, g2⟩, trivial⟩ ?_
      obtain ⟨rfl, rfl⟩ := Prod.mk.inj (Option.some.inj hf)
      exact v_iret C0 cokX5_suit hr hlk rfl
    · rcases q_ite hf with ⟨d5, hf⟩ | ⟨d5, hf⟩
      · refine v_tabI C0 dswX5_suit_16 d5 75 (by decide +kernel) (by decide +kernel) ?_
        obtain ⟨g4, hf⟩ := q_gu_o hf
        refine v_run C0 tbX5 cokX5_suit (pc' := 81) (lv' := [(0, .ref a0), (1, .int x1), (2, .int x2)]) (st' := [.int (q_int (q_si h a0 21 (0 : Int32)) (q_ref σ a0 2) (Int32.toNatClampNeg x1))]) (h' := (q_si h a0 21 (0 : Int32))) 4 rfl ⟨⟨ta0, q_tn k1⟩, ⟨k1, g4⟩, trivial⟩ ?_
        obtain ⟨rfl, rfl⟩ := Prod.mk.inj (Option.some.inj hf)
        exact v_iret C0 cokX5_suit hr hlk rfl
      · rcases q_ite hf with ⟨d7, hf⟩ | ⟨d7, hf⟩
        · refine v_tabI C0 dswX5_suit_16 d7 82 (by decide +kernel) (by decide +kernel) ?_
          obtain ⟨g6, hf⟩ := q_gu_o hf
          refine v_run C0 tbX5 cokX5_suit (pc' := 88) (lv' := [(0, .ref a0), (1, .int x1), (2, .int x2)]) (st' := [.int (q_int (q_si h a0 21 (0 : Int32)) (q_ref σ a0 3) (Int32.toNatClampNeg x1))]) (h' := (q_si h a0 21 (0 : Int32))) 4 rfl ⟨⟨ta0, q_tn k2⟩, ⟨k2, g6⟩, trivial⟩ ?_
          obtain ⟨rfl, rfl⟩ := Prod.mk.inj (Option.some.inj hf)
          exact v_iret C0 cokX5_suit hr hlk rfl
        · rcases q_ite hf with ⟨d9, hf⟩ | ⟨d9, hf⟩
          · refine v_tabI C0 dswX5_suit_16 d9 89 (by decide +kernel) (by decide +kernel) ?_
            obtain ⟨g8, hf⟩ := q_gu_o hf
            refine v_run C0 tbX5 cokX5_suit (pc' := 95) (lv' := [(0, .ref a0), (1, .int x1), (2, .int x2)]) (st' := [.int (q_int (q_si h a0 21 (0 : Int32)) (q_ref σ a0 4) (Int32.toNatClampNeg x1))]) (h' := (q_si h a0 21 (0 : Int32))) 4 rfl ⟨⟨ta0, q_tn k3⟩, ⟨k3, g8⟩, trivial⟩ ?_
            obtain ⟨rfl, rfl⟩ := Prod.mk.inj (Option.some.inj hf)
            exact v_iret C0 cokX5_suit hr hlk rfl
          · rcases q_ite hf with ⟨d11, hf⟩ | ⟨d11, hf⟩
            · refine v_tabI C0 dswX5_suit_16 d11 96 (by decide +kernel) (by decide +kernel) ?_
              obtain ⟨g10, hf⟩ := q_gu_o hf
              refine v_run C0 tbX5 cokX5_suit (pc' := 102) (lv' := [(0, .ref a0), (1, .int x1), (2, .int x2)]) (st' := [.int (q_int (q_si h a0 21 (0 : Int32)) (q_ref σ a0 5) (Int32.toNatClampNeg x1))]) (h' := (q_si h a0 21 (0 : Int32))) 4 rfl ⟨⟨ta0, q_tn k4⟩, ⟨k4, g10⟩, trivial⟩ ?_
              obtain ⟨rfl, rfl⟩ := Prod.mk.inj (Option.some.inj hf)
              exact v_iret C0 cokX5_suit hr hlk rfl
            · rcases q_ite hf with ⟨d13, hf⟩ | ⟨d13, hf⟩
              · refine v_tabI C0 dswX5_suit_16 d13 103 (by decide +kernel) (by decide +kernel) ?_
                refine v_run C0 tbX5 cokX5_suit (pc' := 105) (lv' := [(0, .ref a0), (1, .int x1), (2, .int x2)]) (st' := [.int x1, .ref a0]) (h' := (q_si h a0 21 (0 : Int32))) 2 rfl trivial ?_
                obtain ⟨r12, e12, hf⟩ := q_bd hf
                refine v_callV C0 cokX5_suit rfl (rest := []) (ctX5_priceOf a0 x1 ta0 e12) calX5_priceOf lkX5_121 inX5_priceOf dnX5_priceOf (ci := 5) ⟨rfl, by decide⟩ ta0 rfl rfl ⟨by decide, by decide⟩ (Nat.le_of_ble_eq_true rfl) (Nat.le_refl _) (Nat.le_refl _) ?_
                obtain ⟨rfl, rfl⟩ := Prod.mk.inj (Option.some.inj hf)
                exact v_iret C0 cokX5_suit hr hlk rfl
              · rcases q_ite hf with ⟨d15, hf⟩ | ⟨d15, hf⟩
                · refine v_tabI C0 dswX5_suit_16 d15 109 (by decide +kernel) (by decide +kernel) ?_
                  refine v_run C0 tbX5 cokX5_suit (pc' := 111) (lv' := [(0, .ref a0), (1, .int x1), (2, .int x2)]) (st' := [.int x1, .ref a0]) (h' := (q_si h a0 21 (0 : Int32))) 2 rfl trivial ?_
                  obtain ⟨r14, e14, hf⟩ := q_bd hf
                  refine v_callV C0 cokX5_suit rfl (rest := []) (ctX5_givesOf a0 x1 ta0 e14) calX5_givesOf lkX5_110 inX5_givesOf dnX5_givesOf (ci := 5) ⟨rfl, by decide⟩ ta0 rfl rfl ⟨by decide, by decide⟩ (Nat.le_of_ble_eq_true rfl) (Nat.le_refl _) (Nat.le_refl _) ?_
                  obtain ⟨rfl, rfl⟩ := Prod.mk.inj (Option.some.inj hf)
                  exact v_iret C0 cokX5_suit hr hlk rfl
                · rcases q_ite hf with ⟨d17, hf⟩ | ⟨d17, hf⟩
                  · refine v_tabI C0 dswX5_suit_16 d17 115 (by decide +kernel) (by decide +kernel) ?_
                    refine v_run C0 tbX5 cokX5_suit (pc' := 117) (lv' := [(0, .ref a0), (1, .int x1), (2, .int x2)]) (st' := [.int x1, .ref a0]) (h' := (q_si h a0 21 (0 : Int32))) 2 rfl trivial ?_
                    obtain ⟨r16, e16, hf⟩ := q_bd hf
                    refine v_callV C0 cokX5_suit rfl (rest := []) (ctX5_cleansOf a0 x1 ta0 e16) calX5_cleansOf lkX5_130 inX5_cleansOf dnX5_cleansOf (ci := 5) ⟨rfl, by decide⟩ ta0 rfl rfl ⟨by decide, by decide⟩ (Nat.le_of_ble_eq_true rfl) (Nat.le_refl _) (Nat.le_refl _) ?_
                    obtain ⟨rfl, rfl⟩ := Prod.mk.inj (Option.some.inj hf)
                    exact v_iret C0 cokX5_suit hr hlk rfl
                  · rcases q_ite hf with ⟨d19, hf⟩ | ⟨d19, hf⟩
                    · refine v_tabI C0 dswX5_suit_16 d19 121 (by decide +kernel) (by decide +kernel) ?_
                      refine v_run C0 tbX5 cokX5_suit (pc' := 123) (lv' := [(0, .ref a0), (1, .int x1), (2, .int x2)]) (st' := [.int x1, .ref a0]) (h' := (q_si h a0 21 (0 : Int32))) 2 rfl trivial ?_
                      obtain ⟨r18, e18, hf⟩ := q_bd hf
                      refine v_callV C0 cokX5_suit rfl (rest := []) (ctX5_lastsOf a0 x1 ta0 e18) calX5_lastsOf lkX5_226 inX5_lastsOf dnX5_lastsOf (ci := 5) ⟨rfl, by decide⟩ ta0 rfl rfl ⟨by decide, by decide⟩ (Nat.le_of_ble_eq_true rfl) (Nat.le_refl _) (Nat.le_refl _) ?_
                      obtain ⟨rfl, rfl⟩ := Prod.mk.inj (Option.some.inj hf)
                      exact v_iret C0 cokX5_suit hr hlk rfl
                    · refine v_tabO C0 dswX5_suit_16 127 (by decide +kernel) (fun k h1 h2 hk => ?_) ?_
                      · have hk2 : k = 0 ∨ k = 1 ∨ k = 2 ∨ k = 3 ∨ k = 4 ∨ k = 5 ∨ k = 6 ∨ k = 7 ∨ k = 8 := by omega
                        rcases hk2 with rfl | rfl | rfl | rfl | rfl | rfl | rfl | rfl | rfl
                        · exact d3 (Int32.toInt_inj.mp hk)
                        · exact d5 (Int32.toInt_inj.mp hk)
                        · exact d7 (Int32.toInt_inj.mp hk)
                        · exact d9 (Int32.toInt_inj.mp hk)
                        · exact d11 (Int32.toInt_inj.mp hk)
                        · exact d13 (Int32.toInt_inj.mp hk)
                        · exact d15 (Int32.toInt_inj.mp hk)
                        · exact d17 (Int32.toInt_inj.mp hk)
                        · exact d19 (Int32.toInt_inj.mp hk)
                      · refine v_run C0 tbX5 cokX5_suit (pc' := 128) (lv' := [(0, .ref a0), (1, .int x1), (2, .int x2)]) (st' := [.int (-1 : Int32)]) (h' := (q_si h a0 21 (0 : Int32))) 1 rfl trivial ?_
                        obtain ⟨rfl, rfl⟩ := Prod.mk.inj (Option.some.inj hf)
                        exact v_iret C0 cokX5_suit hr hlk rfl
-- BackByNoonOnMondayModel.booking(II)I
noncomputable def fX5_booking (σ : q_St) (h : q_Hp) (a0 : Nat) (x1 : Int32) (x2 : Int32) : Option (Int32 × q_Hp) := q_gu ((q_tag σ (q_ref σ a0 7) = 7) ∧ (q_tag σ (q_ref σ a0 8) = 7) ∧ (q_tag σ (q_ref σ a0 9) = 7) ∧ (q_tag σ (q_ref σ a0 10) = 7) ∧ (q_tag σ (q_ref σ a0 11) = 7) ∧ (q_tag σ (q_ref σ a0 12) = 7)) (((fX5_isBooking σ (q_si h a0 21 (0 : Int32)) a0 x1).bind fun r1 => (if r1 = 0 then some ((-1 : Int32), (q_si h a0 21 (0 : Int32))) else (if x2 = (0 : Int32) then q_gu ((vp_in x1 (q_len σ (q_ref σ a0 7)))) (some ((q_int (q_si h a0 21 (0 : Int32)) (q_ref σ a0 7) (Int32.toNatClampNeg x1)), (q_si h a0 21 (0 : Int32)))) else (if x2 = (1 : Int32) then q_gu ((vp_in x1 (q_len σ (q_ref σ a0 8)))) (some ((q_int (q_si h a0 21 (0 : Int32)) (q_ref σ a0 8) (Int32.toNatClampNeg x1)), (q_si h a0 21 (0 : Int32)))) else (if x2 = (2 : Int32) then q_gu ((vp_in x1 (q_len σ (q_ref σ a0 9)))) (some ((q_int (q_si h a0 21 (0 : Int32)) (q_ref σ a0 9) (Int32.toNatClampNeg x1)), (q_si h a0 21 (0 : Int32)))) else (if x2 = (3 : Int32) then q_gu ((vp_in x1 (q_len σ (q_ref σ a0 10)))) (some ((q_int (q_si h a0 21 (0 : Int32)) (q_ref σ a0 10) (Int32.toNatClampNeg x1)), (q_si h a0 21 (0 : Int32)))) else (if x2 = (4 : Int32) then q_gu ((vp_in x1 (q_len σ (q_ref σ a0 11)))) (some ((q_int (q_si h a0 21 (0 : Int32)) (q_ref σ a0 11) (Int32.toNatClampNeg x1)), (q_si h a0 21 (0 : Int32)))) else (if x2 = (5 : Int32) then q_gu ((vp_in x1 (q_len σ (q_ref σ a0 12)))) (some ((q_int (q_si h a0 21 (0 : Int32)) (q_ref σ a0 12) (Int32.toNatClampNeg x1)), (q_si h a0 21 (0 : Int32)))) else some ((-1 : Int32), (q_si h a0 21 (0 : Int32))))))))))))
def cdX5_booking : q_Cd := [(0, .aload_n 0), (1, .iconst 0), (2, .putfield 89), (5, .aload_n 0), (6, .iload_n 1), (7, .invokevirtual 173), (10, .ifCond .ne 5), (13, .iconst (-1)), (14, .ireturn), (15, .iload_n 2), (56, .aload_n 0), (57, .getfield 25), (60, .iload_n 1), (61, .iaload), (62, .ireturn), (63, .aload_n 0), (64, .getfield 28), (67, .iload_n 1), (68, .iaload), (69, .ireturn), (70, .aload_n 0), (71, .getfield 31), (74, .iload_n 1), (75, .iaload), (76, .ireturn), (77, .aload_n 0), (78, .getfield 34), (81, .iload_n 1), (82, .iaload), (83, .ireturn), (84, .aload_n 0), (85, .getfield 37), (88, .iload_n 1), (89, .iaload), (90, .ireturn), (91, .aload_n 0), (92, .getfield 40), (95, .iload_n 1), (96, .iaload), (97, .ireturn), (98, .iconst (-1)), (99, .ireturn)]
set_option maxRecDepth 100000 in
theorem cokX5_booking : q_cok cX5_booking cdX5_booking := by unfold q_cok; decide +kernel
theorem dswX5_booking_16 : decode cX5_booking 16 = .ok (.tableswitch 82 0 5 #[40, 47, 54, 61, 68, 75], 40) := by decide +kernel
set_option maxRecDepth 100000 in
set_option maxHeartbeats 4000000 in
theorem ctX5_booking {l : Launch} {D : va_G} {cy : Nat → Nat} {b0 : Nat} {σ : q_St} {h : q_Hp} (a0 : Nat) (x1 : Int32) (x2 : Int32) {r : Int32} {h' : q_Hp} (ta0 : q_tag σ a0 = 6) (hf : fX5_booking σ h a0 x1 x2 = some (r, h')) : q_M l yX5_booking cX5_booking 3 (some .int) 2 46 0 0 D cy b0 σ h [.ref a0, .int x1, .int x2] (some (.int r)) σ h' := by
  unfold fX5_booking at hf
  obtain ⟨⟨k0, k1, k2, k3, k4, k5⟩, hf⟩ := q_gu_o hf
  refine q_enter (by decide) (Nat.le_of_ble_eq_true rfl) ?_
  intro p e s m args below meth c C0 hr hlk hnm
  replace C0 : VC p { frames := 2, cells := 0, slots := 0, locals := 46 } s m args meth c D cy b0 3 0 0 RX5 cX5_booking := C0
  refine v_run C0 tbX5 cokX5_booking (pc' := 7) (lv' := [(0, .ref a0), (1, .int x1), (2, .int x2)]) (st' := [.int x1, .ref a0]) (h' := (q_si h a0 21 (0 : Int32))) 5 rfl ⟨ta0, trivial⟩ ?_
  obtain ⟨r1, e1, hf⟩ := q_bd hf
  refine v_callV C0 cokX5_booking rfl (rest := []) (ctX5_isBooking a0 x1 ta0 e1) calX5_isBooking lkX5_173 inX5_isBooking dnX5_isBooking (ci := 5) ⟨rfl, by decide⟩ ta0 rfl rfl ⟨by decide, by decide⟩ (Nat.le_of_ble_eq_true rfl) (Nat.le_refl _) (Nat.le_refl _) ?_
  refine v_if_ne C0 cokX5_booking rfl 15 (by decide) hf (fun _ hf => ?_) (fun _ hf => ?_)
  · refine v_run C0 tbX5 cokX5_booking (pc' := 14) (lv' := [(0, .ref a0), (1, .int x1), (2, .int x2)]) (st' := [.int (-1 : Int32)]) (h' := (q_si h a0 21 (0 : Int32))) 1 rfl trivial ?_
    obtain ⟨rfl, rfl⟩ := Prod.mk.inj (Option.some.inj hf)
    exact v_iret C0 cokX5_booking hr hlk rfl
  · refine v_run C0 tbX5 cokX5_booking (pc' := 16) (lv' := [(0, .ref a0), (1, .int x1), (2, .int x2)]) (st' := [.int x2]) (h' := (q_si h a0 21 (0 : Int32))) 1 rfl trivial ?_
    rcases q_ite hf with ⟨d3, hf⟩ | ⟨d3, hf⟩
    · refine v_tabI C0 dswX5_booking_16 d3 56 (by decide +kernel) (by decide +kernel) ?_
      obtain ⟨g2, hf⟩ := q_gu_o hf
      refine v_run C0 tbX5 cokX5_booking (pc' := 62) (lv' := [(0, .ref a0), (1, .int x1), (2, .int x2)]) (st' := [.int (q_int (q_si h a0 21 (0 : Int32)) (q_ref σ a0 7) (Int32.toNatClampNeg x1))]) (h' := (q_si h a0 21 (0 : Int32))) 4 rfl ⟨⟨ta0, q_tn k0⟩, ⟨k0, g2⟩, trivial⟩ ?_
      obtain ⟨rfl, rfl⟩ := Prod.mk.inj (Option.some.inj hf)
      exact v_iret C0 cokX5_booking hr hlk rfl
    · rcases q_ite hf with ⟨d5, hf⟩ | ⟨d5, hf⟩
      · refine v_tabI C0 dswX5_booking_16 d5 63 (by decide +kernel) (by decide +kernel) ?_
        obtain ⟨g4, hf⟩ := q_gu_o hf
        refine v_run C0 tbX5 cokX5_booking (pc' := 69) (lv' := [(0, .ref a0), (1, .int x1), (2, .int x2)]) (st' := [.int (q_int (q_si h a0 21 (0 : Int32)) (q_ref σ a0 8) (Int32.toNatClampNeg x1))]) (h' := (q_si h a0 21 (0 : Int32))) 4 rfl ⟨⟨ta0, q_tn k1⟩, ⟨k1, g4⟩, trivial⟩ ?_
        obtain ⟨rfl, rfl⟩ := Prod.mk.inj (Option.some.inj hf)
        exact v_iret C0 cokX5_booking hr hlk rfl
      · rcases q_ite hf with ⟨d7, hf⟩ | ⟨d7, hf⟩
        · refine v_tabI C0 dswX5_booking_16 d7 70 (by decide +kernel) (by decide +kernel) ?_
          obtain ⟨g6, hf⟩ := q_gu_o hf
          refine v_run C0 tbX5 cokX5_booking (pc' := 76) (lv' := [(0, .ref a0), (1, .int x1), (2, .int x2)]) (st' := [.int (q_int (q_si h a0 21 (0 : Int32)) (q_ref σ a0 9) (Int32.toNatClampNeg x1))]) (h' := (q_si h a0 21 (0 : Int32))) 4 rfl ⟨⟨ta0, q_tn k2⟩, ⟨k2, g6⟩, trivial⟩ ?_
          obtain ⟨rfl, rfl⟩ := Prod.mk.inj (Option.some.inj hf)
          exact v_iret C0 cokX5_booking hr hlk rfl
        · rcases q_ite hf with ⟨d9, hf⟩ | ⟨d9, hf⟩
          · refine v_tabI C0 dswX5_booking_16 d9 77 (by decide +kernel) (by decide +kernel) ?_
            obtain ⟨g8, hf⟩ := q_gu_o hf
            refine v_run C0 tbX5 cokX5_booking (pc' := 83) (lv' := [(0, .ref a0), (1, .int x1), (2, .int x2)]) (st' := [.int (q_int (q_si h a0 21 (0 : Int32)) (q_ref σ a0 10) (Int32.toNatClampNeg x1))]) (h' := (q_si h a0 21 (0 : Int32))) 4 rfl ⟨⟨ta0, q_tn k3⟩, ⟨k3, g8⟩, trivial⟩ ?_
            obtain ⟨rfl, rfl⟩ := Prod.mk.inj (Option.some.inj hf)
            exact v_iret C0 cokX5_booking hr hlk rfl
          · rcases q_ite hf with ⟨d11, hf⟩ | ⟨d11, hf⟩
            · refine v_tabI C0 dswX5_booking_16 d11 84 (by decide +kernel) (by decide +kernel) ?_
              obtain ⟨g10, hf⟩ := q_gu_o hf
              refine v_run C0 tbX5 cokX5_booking (pc' := 90) (lv' := [(0, .ref a0), (1, .int x1), (2, .int x2)]) (st' := [.int (q_int (q_si h a0 21 (0 : Int32)) (q_ref σ a0 11) (Int32.toNatClampNeg x1))]) (h' := (q_si h a0 21 (0 : Int32))) 4 rfl ⟨⟨ta0, q_tn k4⟩, ⟨k4, g10⟩, trivial⟩ ?_
              obtain ⟨rfl, rfl⟩ := Prod.mk.inj (Option.some.inj hf)
              exact v_iret C0 cokX5_booking hr hlk rfl
            · rcases q_ite hf with ⟨d13, hf⟩ | ⟨d13, hf⟩
              · refine v_tabI C0 dswX5_booking_16 d13 91 (by decide +kernel) (by decide +kernel) ?_
                obtain ⟨g12, hf⟩ := q_gu_o hf
                refine v_run C0 tbX5 cokX5_booking (pc' := 97) (lv' := [(0, .ref a0), (1, .int x1), (2, .int x2)]) (st' := [.int (q_int (q_si h a0 21 (0 : Int32)) (q_ref σ a0 12) (Int32.toNatClampNeg x1))]) (h' := (q_si h a0 21 (0 : Int32))) 4 rfl ⟨⟨ta0, q_tn k5⟩, ⟨k5, g12⟩, trivial⟩ ?_
                obtain ⟨rfl, rfl⟩ := Prod.mk.inj (Option.some.inj hf)
                exact v_iret C0 cokX5_booking hr hlk rfl
              · refine v_tabO C0 dswX5_booking_16 98 (by decide +kernel) (fun k h1 h2 hk => ?_) ?_
                · have hk2 : k = 0 ∨ k = 1 ∨ k = 2 ∨ k = 3 ∨ k = 4 ∨ k = 5 := by omega
                  rcases hk2 with rfl | rfl | rfl | rfl | rfl | rfl
                  · exact d3 (Int32.toInt_inj.mp hk)
                  · exact d5 (Int32.toInt_inj.mp hk)
                  · exact d7 (Int32.toInt_inj.mp hk)
                  · exact d9 (Int32.toInt_inj.mp hk)
                  · exact d11 (Int32.toInt_inj.mp hk)
                  · exact d13 (Int32.toInt_inj.mp hk)
                · refine v_run C0 tbX5 cokX5_booking (pc' := 99) (lv' := [(0, .ref a0), (1, .int x1), (2, .int x2)]) (st' := [.int (-1 : Int32)]) (h' := (q_si h a0 21 (0 : Int32))) 1 rfl trivial ?_
                  obtain ⟨rfl, rfl⟩ := Prod.mk.inj (Option.some.inj hf)
                  exact v_iret C0 cokX5_booking hr hlk rfl
-- BackByNoonOnMondayModel.wrongKept(I)I
noncomputable def fX5_wrongKept (σ : q_St) (h : q_Hp) (a0 : Nat) (x1 : Int32) : Option Int32 := q_gu ((q_tag σ (q_ref σ a0 15) = 7)) (((fX5_in σ h (Int32.toInt64 x1) (0 : Int64) (7 : Int64)).bind fun r1 => (if r1 = 0 then some (-1 : Int32) else q_gu ((vp_in x1 (q_len σ (q_ref σ a0 15)))) ((if (q_int h (q_ref σ a0 15) (Int32.toNatClampNeg x1)) = 0 then some (-11 : Int32) else (if (q_int h (q_ref σ a0 15) (Int32.toNatClampNeg x1)) = (1 : Int32) then some (0 : Int32) else some (-12 : Int32)))))))
def cdX5_wrongKept : q_Cd := [(0, .iload_n 1), (1, .i2l), (2, .lconst 0), (3, .ldc2_w 229), (6, .invokestatic 96), (9, .ifCond .ne 7), (12, .iconst (-1)), (13, .goto 33), (16, .aload_n 0), (17, .getfield 43), (20, .iload_n 1), (21, .iaload), (22, .ifCond .ne 8), (25, .bipush (-11)), (27, .goto 19), (30, .aload_n 0), (31, .getfield 43), (34, .iload_n 1), (35, .iaload), (36, .iconst 1), (37, .if_icmp .eq 8), (40, .bipush (-12)), (42, .goto 4), (45, .iconst 0), (46, .ireturn)]
set_option maxRecDepth 100000 in
theorem cokX5_wrongKept : q_cok cX5_wrongKept cdX5_wrongKept := by unfold q_cok; decide +kernel
set_option maxRecDepth 100000 in
set_option maxHeartbeats 4000000 in
theorem ctX5_wrongKept {l : Launch} {D : va_G} {cy : Nat → Nat} {b0 : Nat} {σ : q_St} {h : q_Hp} (a0 : Nat) (x1 : Int32) {r : Int32} (ta0 : q_tag σ a0 = 6) (hf : fX5_wrongKept σ h a0 x1 = some r) : q_M l yX5_wrongKept cX5_wrongKept 2 (some .int) 1 25 0 0 D cy b0 σ h [.ref a0, .int x1] (some (.int r)) σ h := by
  unfold fX5_wrongKept at hf
  obtain ⟨k0, hf⟩ := q_gu_o hf
  refine q_enter (by decide) (Nat.le_of_ble_eq_true rfl) ?_
  intro p e s m args below meth c C0 hr hlk hnm
  replace C0 : VC p { frames := 1, cells := 0, slots := 0, locals := 25 } s m args meth c D cy b0 2 0 0 RX5 cX5_wrongKept := C0
  refine v_run C0 tbX5 cokX5_wrongKept (pc' := 6) (lv' := [(0, .ref a0), (1, .int x1)]) (st' := [.long (7 : Int64), .long (0 : Int64), .long (Int32.toInt64 x1)]) (h' := h) 4 rfl trivial ?_
  obtain ⟨r1, e1, hf⟩ := q_bd hf
  refine v_callS C0 cokX5_wrongKept rfl (rest := []) (ctX5_in (Int32.toInt64 x1) (0 : Int64) (7 : Int64) e1) calX5_in lkX5_96 inX5_in dnX5_in rfl rfl ⟨by decide, by decide⟩ (Nat.le_of_ble_eq_true rfl) (Nat.le_refl _) (Nat.le_refl _) ?_
  refine v_if_ne C0 cokX5_wrongKept rfl 16 (by decide) hf (fun _ hf => ?_) (fun _ hf => ?_)
  · refine v_run C0 tbX5 cokX5_wrongKept (pc' := 46) (lv' := [(0, .ref a0), (1, .int x1)]) (st' := [.int (-1 : Int32)]) (h' := h) 2 rfl trivial ?_
    obtain rfl := Option.some.inj hf
    exact v_iret C0 cokX5_wrongKept hr hlk rfl
  · obtain ⟨g2, hf⟩ := q_gu_o hf
    refine v_run C0 tbX5 cokX5_wrongKept (pc' := 22) (lv' := [(0, .ref a0), (1, .int x1)]) (st' := [.int (q_int h (q_ref σ a0 15) (Int32.toNatClampNeg x1))]) (h' := h) 4 rfl ⟨⟨ta0, q_tn k0⟩, ⟨k0, g2⟩, trivial⟩ ?_
    refine v_if_ne C0 cokX5_wrongKept rfl 30 (by decide) hf (fun _ hf => ?_) (fun _ hf => ?_)
    · refine v_run C0 tbX5 cokX5_wrongKept (pc' := 46) (lv' := [(0, .ref a0), (1, .int x1)]) (st' := [.int (-11 : Int32)]) (h' := h) 2 rfl trivial ?_
      obtain rfl := Option.some.inj hf
      exact v_iret C0 cokX5_wrongKept hr hlk rfl
    · refine v_run C0 tbX5 cokX5_wrongKept (pc' := 37) (lv' := [(0, .ref a0), (1, .int x1)]) (st' := [.int (1 : Int32), .int (q_int h (q_ref σ a0 15) (Int32.toNatClampNeg x1))]) (h' := h) 5 rfl ⟨⟨ta0, q_tn k0⟩, ⟨k0, g2⟩, trivial⟩ ?_
      refine v_icmp_eq C0 cokX5_wrongKept rfl 45 (by decide) hf (fun _ hf => ?_) (fun _ hf => ?_)
      · refine v_run C0 tbX5 cokX5_wrongKept (pc' := 46) (lv' := [(0, .ref a0), (1, .int x1)]) (st' := [.int (0 : Int32)]) (h' := h) 1 rfl trivial ?_
        obtain rfl := Option.some.inj hf
        exact v_iret C0 cokX5_wrongKept hr hlk rfl
      · refine v_run C0 tbX5 cokX5_wrongKept (pc' := 46) (lv' := [(0, .ref a0), (1, .int x1)]) (st' := [.int (-12 : Int32)]) (h' := h) 2 rfl trivial ?_
        obtain rfl := Option.some.inj hf
        exact v_iret C0 cokX5_wrongKept hr hlk rfl
-- BackByNoonOnMondayModel.buys(II)I
noncomputable def fX5_buys_26 (σ : q_St) (h : q_Hp) (a0 : Nat) (x1 : Int32) (x2 : Int32) (s0 : Int32) : Option (Int32 × q_Hp) := (if 0 ≤ s0 then q_gu ((vp_in x1 (q_len σ (q_ref σ a0 16))) ∧ (vp_in x1 (q_len σ (q_ref σ a0 17)))) ((q_b2 (fX5_suitComes σ h a0 (q_int h (q_ref σ a0 16) (Int32.toNatClampNeg x1)) (q_int h (q_ref σ a0 17) (Int32.toNatClampNeg x1)) x2 (0 : Int32)) fun r5 h5 => (if r5 = 0 then some ((-2 : Int32), h5) else some (((q_int h5 a0 0) - (1 : Int32)), h5)))) else some (s0, h))
noncomputable def fX5_buys (σ : q_St) (h : q_Hp) (a0 : Nat) (x1 : Int32) (x2 : Int32) : Option (Int32 × q_Hp) := q_gu ((q_tag σ (q_ref σ a0 16) = 7) ∧ (q_tag σ (q_ref σ a0 17) = 7)) (((fX5_in σ (q_si h a0 21 (0 : Int32)) (Int32.toInt64 x2) (0 : Int64) (20 : Int64)).bind fun r1 => (if r1 = 0 then fX5_buys_26 σ (q_si h a0 21 (0 : Int32)) a0 x1 x2 (-1 : Int32) else ((fX5_wrongKept σ (q_si h a0 21 (0 : Int32)) a0 x1).bind fun r2 => fX5_buys_26 σ (q_si h a0 21 (0 : Int32)) a0 x1 x2 r2))))
def cdX5_buys : q_Cd := [(0, .aload_n 0), (1, .iconst 0), (2, .putfield 89), (5, .iload_n 2), (6, .i2l), (7, .lconst 0), (8, .ldc2_w 231), (11, .invokestatic 96), (14, .ifCond .eq 11), (17, .aload_n 0), (18, .iload_n 1), (19, .invokevirtual 233), (22, .goto 4), (25, .iconst (-1)), (26, .istore_n 3), (27, .iload_n 3), (28, .ifCond .ge 5), (31, .iload_n 3), (32, .ireturn), (33, .aload_n 0), (34, .aload_n 0), (35, .getfield 46), (38, .iload_n 1), (39, .iaload), (40, .aload_n 0), (41, .getfield 49), (44, .iload_n 1), (45, .iaload), (46, .iload_n 2), (47, .iconst 0), (48, .invokevirtual 161), (51, .ifCond .eq 12), (54, .aload_n 0), (55, .getfield 93), (58, .iconst 1), (59, .isub), (60, .goto 5), (63, .bipush (-2)), (65, .ireturn)]
set_option maxRecDepth 100000 in
theorem cokX5_buys : q_cok cX5_buys cdX5_buys := by unfold q_cok; decide +kernel
set_option maxRecDepth 100000 in
set_option maxHeartbeats 4000000 in
theorem ctX5_buys {l : Launch} {D : va_G} {cy : Nat → Nat} {b0 : Nat} {σ : q_St} {h : q_Hp} (a0 : Nat) (x1 : Int32) (x2 : Int32) {r : Int32} {h' : q_Hp} (ta0 : q_tag σ a0 = 6) (hf : fX5_buys σ h a0 x1 x2 = some (r, h')) : q_M l yX5_buys cX5_buys 4 (some .int) 2 46 0 0 D cy b0 σ h [.ref a0, .int x1, .int x2] (some (.int r)) σ h' := by
  unfold fX5_buys at hf
  obtain ⟨⟨k0, k1⟩, hf⟩ := q_gu_o hf
  refine q_enter (by decide) (Nat.le_of_ble_eq_true rfl) ?_
  intro p e s m args below meth c C0 hr hlk hnm
  replace C0 : VC p { frames := 2, cells := 0, slots := 0, locals := 46 } s m args meth c D cy b0 4 0 0 RX5 cX5_buys := C0
  have n26 : ∀ (h : q_Hp) (s0 : Int32), fX5_buys_26 σ h a0 x1 x2 s0 = some (r, h') → V p l e { frames := 2, cells := 0, slots := 0, locals := 46 } s m args below meth c (MQ below (q_Qc D cy b0 (some (.int r)) σ h') args s 0 0 (fun q => b0 ≤ q)) D cy b0 4 0 0 0 0 σ h 26 [(0, .ref a0), (1, .int x1), (2, .int x2)] [.int s0] := by
    intro h s0 hf
    unfold fX5_buys_26 at hf
    refine v_run C0 tbX5 cokX5_buys (pc' := 28) (lv' := [(3, .int s0), (0, .ref a0), (1, .int x1), (2, .int x2)]) (st' := [.int s0]) (h' := h) 2 rfl trivial ?_
    refine v_if_ge C0 cokX5_buys rfl 33 (by decide) hf (fun _ hf => ?_) (fun _ hf => ?_)
    · obtain ⟨⟨g3, g4⟩, hf⟩ := q_gu_o hf
      refine v_run C0 tbX5 cokX5_buys (pc' := 48) (lv' := [(3, .int s0), (0, .ref a0), (1, .int x1), (2, .int x2)]) (st' := [.int (0 : Int32), .int x2, .int (q_int h (q_ref σ a0 17) (Int32.toNatClampNeg x1)), .int (q_int h (q_ref σ a0 16) (Int32.toNatClampNeg x1)), .ref a0]) (h' := h) 11 rfl ⟨⟨ta0, q_tn k0⟩, ⟨k0, g3⟩, ⟨ta0, q_tn k1⟩, ⟨k1, g4⟩, trivial⟩ ?_
      obtain ⟨r5, h5, e5, hf⟩ := q_bd2 hf
      refine v_callV C0 cokX5_buys rfl (rest := []) (ctX5_suitComes a0 (q_int h (q_ref σ a0 16) (Int32.toNatClampNeg x1)) (q_int h (q_ref σ a0 17) (Int32.toNatClampNeg x1)) x2 (0 : Int32) ta0 e5) calX5_suitComes lkX5_161 inX5_suitComes dnX5_suitComes (ci := 5) ⟨rfl, by decide⟩ ta0 rfl rfl ⟨by decide, by decide⟩ (Nat.le_of_ble_eq_true rfl) (Nat.le_refl _) (Nat.le_refl _) ?_
      refine v_if_eq C0 cokX5_buys rfl 63 (by decide) hf (fun _ hf => ?_) (fun _ hf => ?_)
      · refine v_run C0 tbX5 cokX5_buys (pc' := 65) (lv' := [(3, .int s0), (0, .ref a0), (1, .int x1), (2, .int x2)]) (st' := [.int (-2 : Int32)]) (h' := h5) 1 rfl trivial ?_
        obtain ⟨rfl, rfl⟩ := Prod.mk.inj (Option.some.inj hf)
        exact v_iret C0 cokX5_buys hr hlk rfl
      · refine v_run C0 tbX5 cokX5_buys (pc' := 65) (lv' := [(3, .int s0), (0, .ref a0), (1, .int x1), (2, .int x2)]) (st' := [.int ((q_int h5 a0 0) - (1 : Int32))]) (h' := h5) 5 rfl ⟨ta0, trivial⟩ ?_
        obtain ⟨rfl, rfl⟩ := Prod.mk.inj (Option.some.inj hf)
        exact v_iret C0 cokX5_buys hr hlk rfl
    · refine v_run C0 tbX5 cokX5_buys (pc' := 32) (lv' := [(3, .int s0), (0, .ref a0), (1, .int x1), (2, .int x2)]) (st' := [.int s0]) (h' := h) 1 rfl trivial ?_
      obtain ⟨rfl, rfl⟩ := Prod.mk.inj (Option.some.inj hf)
      exact v_iret C0 cokX5_buys hr hlk rfl
  refine v_run C0 tbX5 cokX5_buys (pc' := 11) (lv' := [(0, .ref a0), (1, .int x1), (2, .int x2)]) (st' := [.long (20 : Int64), .long (0 : Int64), .long (Int32.toInt64 x2)]) (h' := (q_si h a0 21 (0 : Int32))) 7 rfl ⟨ta0, trivial⟩ ?_
  obtain ⟨r1, e1, hf⟩ := q_bd hf
  refine v_callS C0 cokX5_buys rfl (rest := []) (ctX5_in (Int32.toInt64 x2) (0 : Int64) (20 : Int64) e1) calX5_in lkX5_96 inX5_in dnX5_in rfl rfl ⟨by decide, by decide⟩ (Nat.le_of_ble_eq_true rfl) (Nat.le_refl _) (Nat.le_refl _) ?_
  refine v_if_eq C0 cokX5_buys rfl 25 (by decide) hf (fun _ hf => ?_) (fun _ hf => ?_)
  · refine v_run C0 tbX5 cokX5_buys (pc' := 26) (lv' := [(0, .ref a0), (1, .int x1), (2, .int x2)]) (st' := [.int (-1 : Int32)]) (h' := (q_si h a0 21 (0 : Int32))) 1 rfl trivial ?_
    refine v_pick [0, 1, 2] rfl ?_
    exact n26 (q_si h a0 21 (0 : Int32)) (-1 : Int32) hf
  · refine v_run C0 tbX5 cokX5_buys (pc' := 19) (lv' := [(0, .ref a0), (1, .int x1), (2, .int x2)]) (st' := [.int x1, .ref a0]) (h' := (q_si h a0 21 (0 : Int32))) 2 rfl trivial ?_
    obtain ⟨r2, e2, hf⟩ := q_bd hf
    refine v_callV C0 cokX5_buys rfl (rest := []) (ctX5_wrongKept a0 x1 ta0 e2) calX5_wrongKept lkX5_233 inX5_wrongKept dnX5_wrongKept (ci := 5) ⟨rfl, by decide⟩ ta0 rfl rfl ⟨by decide, by decide⟩ (Nat.le_of_ble_eq_true rfl) (Nat.le_refl _) (Nat.le_refl _) ?_
    refine v_run C0 tbX5 cokX5_buys (pc' := 26) (lv' := [(0, .ref a0), (1, .int x1), (2, .int x2)]) (st' := [.int r2]) (h' := (q_si h a0 21 (0 : Int32))) 1 rfl trivial ?_
    refine v_pick [0, 1, 2] rfl ?_
    exact n26 (q_si h a0 21 (0 : Int32)) r2 hf
-- BackByNoonOnMondayModel.books(III)I
noncomputable def fX5_books (σ : q_St) (h : q_Hp) (a0 : Nat) (x1 : Int32) (x2 : Int32) (x3 : Int32) : Option (Int32 × q_Hp) := ((fX5_in σ (q_si h a0 21 (0 : Int32)) (Int32.toInt64 x1) (0 : Int64) (20 : Int64)).bind fun r1 => (if r1 = 0 then some ((-1 : Int32), (q_si h a0 21 (0 : Int32))) else ((fX5_in σ (q_si h a0 21 (0 : Int32)) (Int32.toInt64 x2) (0 : Int64) (3 : Int64)).bind fun r2 => (if r2 = 0 then some ((-1 : Int32), (q_si h a0 21 (0 : Int32))) else ((fX5_in σ (q_si h a0 21 (0 : Int32)) (Int32.toInt64 x3) (0 : Int64) (999 : Int64)).bind fun r3 => (if r3 = 0 then some ((-1 : Int32), (q_si h a0 21 (0 : Int32))) else (q_b2 (fX5_bookingComes σ (q_si h a0 21 (0 : Int32)) a0 x1 x2 (x3 / (100 : Int32)) ((x3 / (10 : Int32)) - (x3 / (10 : Int32)) / (10 : Int32) * (10 : Int32)) (x3 - x3 / (10 : Int32) * (10 : Int32))) fun r4 h4 => (if r4 = 0 then some ((-2 : Int32), h4) else some (((q_int h4 a0 6) - (1 : Int32)), h4)))))))))
def cdX5_books : q_Cd := [(0, .aload_n 0), (1, .iconst 0), (2, .putfield 89), (5, .iload_n 1), (6, .i2l), (7, .lconst 0), (8, .ldc2_w 231), (11, .invokestatic 96), (14, .ifCond .eq 27), (17, .iload_n 2), (18, .i2l), (19, .lconst 0), (20, .ldc2_w 236), (23, .invokestatic 96), (26, .ifCond .eq 15), (29, .iload_n 3), (30, .i2l), (31, .lconst 0), (32, .ldc2_w 238), (35, .invokestatic 96), (38, .ifCond .ne 5), (41, .iconst (-1)), (42, .ireturn), (43, .aload_n 0), (44, .iload_n 1), (45, .iload_n 2), (46, .iload_n 3), (47, .bipush 100), (49, .idiv), (50, .iload_n 3), (51, .bipush 10), (53, .idiv), (54, .bipush 10), (56, .irem), (57, .iload_n 3), (58, .bipush 10), (60, .irem), (61, .invokevirtual 165), (64, .ifCond .eq 12), (67, .aload_n 0), (68, .getfield 100), (71, .iconst 1), (72, .isub), (73, .goto 5), (76, .bipush (-2)), (78, .ireturn)]
set_option maxRecDepth 100000 in
theorem cokX5_books : q_cok cX5_books cdX5_books := by unfold q_cok; decide +kernel
set_option maxRecDepth 100000 in
set_option maxHeartbeats 4000000 in
theorem ctX5_books {l : Launch} {D : va_G} {cy : Nat → Nat} {b0 : Nat} {σ : q_St} {h : q_Hp} (a0 : Nat) (x1 : Int32) (x2 : Int32) (x3 : Int32) {r : Int32} {h' : q_Hp} (ta0 : q_tag σ a0 = 6) (hf : fX5_books σ h a0 x1 x2 x3 = some (r, h')) : q_M l yX5_books cX5_books 4 (some .int) 1 26 0 0 D cy b0 σ h [.ref a0, .int x1, .int x2, .int x3] (some (.int r)) σ h' := by
  unfold fX5_books at hf
  refine q_enter (by decide) (Nat.le_of_ble_eq_true rfl) ?_
  intro p e s m args below meth c C0 hr hlk hnm
  replace C0 : VC p { frames := 1, cells := 0, slots := 0, locals := 26 } s m args meth c D cy b0 4 0 0 RX5 cX5_books := C0
  refine v_run C0 tbX5 cokX5_books (pc' := 11) (lv' := [(0, .ref a0), (1, .int x1), (2, .int x2), (3, .int x3)]) (st' := [.long (20 : Int64), .long (0 : Int64), .long (Int32.toInt64 x1)]) (h' := (q_si h a0 21 (0 : Int32))) 7 rfl ⟨ta0, trivial⟩ ?_
  obtain ⟨r1, e1, hf⟩ := q_bd hf
  refine v_callS C0 cokX5_books rfl (rest := []) (ctX5_in (Int32.toInt64 x1) (0 : Int64) (20 : Int64) e1) calX5_in lkX5_96 inX5_in dnX5_in rfl rfl ⟨by decide, by decide⟩ (Nat.le_of_ble_eq_true rfl) (Nat.le_refl _) (Nat.le_refl _) ?_
  refine v_if_eq C0 cokX5_books rfl 41 (by decide) hf (fun _ hf => ?_) (fun _ hf => ?_)
  · refine v_run C0 tbX5 cokX5_books (pc' := 42) (lv' := [(0, .ref a0), (1, .int x1), (2, .int x2), (3, .int x3)]) (st' := [.int (-1 : Int32)]) (h' := (q_si h a0 21 (0 : Int32))) 1 rfl trivial ?_
    obtain ⟨rfl, rfl⟩ := Prod.mk.inj (Option.some.inj hf)
    exact v_iret C0 cokX5_books hr hlk rfl
  · refine v_run C0 tbX5 cokX5_books (pc' := 23) (lv' := [(0, .ref a0), (1, .int x1), (2, .int x2), (3, .int x3)]) (st' := [.long (3 : Int64), .long (0 : Int64), .long (Int32.toInt64 x2)]) (h' := (q_si h a0 21 (0 : Int32))) 4 rfl trivial ?_
    obtain ⟨r2, e2, hf⟩ := q_bd hf
    refine v_callS C0 cokX5_books rfl (rest := []) (ctX5_in (Int32.toInt64 x2) (0 : Int64) (3 : Int64) e2) calX5_in lkX5_96 inX5_in dnX5_in rfl rfl ⟨by decide, by decide⟩ (Nat.le_of_ble_eq_true rfl) (Nat.le_refl _) (Nat.le_refl _) ?_
    refine v_if_eq C0 cokX5_books rfl 41 (by decide) hf (fun _ hf => ?_) (fun _ hf => ?_)
    · refine v_run C0 tbX5 cokX5_books (pc' := 42) (lv' := [(0, .ref a0), (1, .int x1), (2, .int x2), (3, .int x3)]) (st' := [.int (-1 : Int32)]) (h' := (q_si h a0 21 (0 : Int32))) 1 rfl trivial ?_
      obtain ⟨rfl, rfl⟩ := Prod.mk.inj (Option.some.inj hf)
      exact v_iret C0 cokX5_books hr hlk rfl
    · refine v_run C0 tbX5 cokX5_books (pc' := 35) (lv' := [(0, .ref a0), (1, .int x1), (2, .int x2), (3, .int x3)]) (st' := [.long (999 : Int64), .long (0 : Int64), .long (Int32.toInt64 x3)]) (h' := (q_si h a0 21 (0 : Int32))) 4 rfl trivial ?_
      obtain ⟨r3, e3, hf⟩ := q_bd hf
      refine v_callS C0 cokX5_books rfl (rest := []) (ctX5_in (Int32.toInt64 x3) (0 : Int64) (999 : Int64) e3) calX5_in lkX5_96 inX5_in dnX5_in rfl rfl ⟨by decide, by decide⟩ (Nat.le_of_ble_eq_true rfl) (Nat.le_refl _) (Nat.le_refl _) ?_
      refine v_if_ne C0 cokX5_books rfl 43 (by decide) hf (fun _ hf => ?_) (fun _ hf => ?_)
      · refine v_run C0 tbX5 cokX5_books (pc' := 42) (lv' := [(0, .ref a0), (1, .int x1), (2, .int x2), (3, .int x3)]) (st' := [.int (-1 : Int32)]) (h' := (q_si h a0 21 (0 : Int32))) 1 rfl trivial ?_
        obtain ⟨rfl, rfl⟩ := Prod.mk.inj (Option.some.inj hf)
        exact v_iret C0 cokX5_books hr hlk rfl
      · refine v_run C0 tbX5 cokX5_books (pc' := 61) (lv' := [(0, .ref a0), (1, .int x1), (2, .int x2), (3, .int x3)]) (st' := [.int (x3 - x3 / (10 : Int32) * (10 : Int32)), .int ((x3 / (10 : Int32)) - (x3 / (10 : Int32)) / (10 : Int32) * (10 : Int32)), .int (x3 / (100 : Int32)), .int x2, .int x1, .ref a0]) (h' := (q_si h a0 21 (0 : Int32))) 14 rfl ⟨(by decide), (by decide), (by decide), (by decide), trivial⟩ ?_
        obtain ⟨r4, h4, e4, hf⟩ := q_bd2 hf
        refine v_callV C0 cokX5_books rfl (rest := []) (ctX5_bookingComes a0 x1 x2 (x3 / (100 : Int32)) ((x3 / (10 : Int32)) - (x3 / (10 : Int32)) / (10 : Int32) * (10 : Int32)) (x3 - x3 / (10 : Int32) * (10 : Int32)) ta0 e4) calX5_bookingComes lkX5_165 inX5_bookingComes dnX5_bookingComes (ci := 5) ⟨rfl, by decide⟩ ta0 rfl rfl ⟨by decide, by decide⟩ (Nat.le_of_ble_eq_true rfl) (Nat.le_refl _) (Nat.le_refl _) ?_
        refine v_if_eq C0 cokX5_books rfl 76 (by decide) hf (fun _ hf => ?_) (fun _ hf => ?_)
        · refine v_run C0 tbX5 cokX5_books (pc' := 78) (lv' := [(0, .ref a0), (1, .int x1), (2, .int x2), (3, .int x3)]) (st' := [.int (-2 : Int32)]) (h' := h4) 1 rfl trivial ?_
          obtain ⟨rfl, rfl⟩ := Prod.mk.inj (Option.some.inj hf)
          exact v_iret C0 cokX5_books hr hlk rfl
        · refine v_run C0 tbX5 cokX5_books (pc' := 78) (lv' := [(0, .ref a0), (1, .int x1), (2, .int x2), (3, .int x3)]) (st' := [.int ((q_int h4 a0 6) - (1 : Int32))]) (h' := h4) 5 rfl ⟨ta0, trivial⟩ ?_
          obtain ⟨rfl, rfl⟩ := Prod.mk.inj (Option.some.inj hf)
          exact v_iret C0 cokX5_books hr hlk rfl
-- BackByNoonOnMondayModel.hires(II)I
noncomputable def fX5_hires (σ : q_St) (h : q_Hp) (a0 : Nat) (x1 : Int32) (x2 : Int32) : Option (Int32 × q_Hp) := ((fX5_isSuit σ (q_si h a0 21 (0 : Int32)) a0 x1).bind fun r1 => (if r1 = 0 then some ((-1 : Int32), (q_si h a0 21 (0 : Int32))) else ((fX5_isBooking σ (q_si h a0 21 (0 : Int32)) a0 x2).bind fun r2 => (if r2 = 0 then some ((-1 : Int32), (q_si h a0 21 (0 : Int32))) else ((fX5_canHire σ (q_si h a0 21 (0 : Int32)) a0 x1 x2).bind fun r3 => (if r3 = 0 then some ((-3 : Int32), (q_si h a0 21 (0 : Int32))) else ((fX5_hire σ (q_si h a0 21 (0 : Int32)) a0 x1 x2).bind fun h4 => some ((q_int h4 a0 13), h4))))))))
def cdX5_hires : q_Cd := [(0, .aload_n 0), (1, .iconst 0), (2, .putfield 89), (5, .aload_n 0), (6, .iload_n 1), (7, .invokevirtual 169), (10, .ifCond .eq 11), (13, .aload_n 0), (14, .iload_n 2), (15, .invokevirtual 173), (18, .ifCond .ne 5), (21, .iconst (-1)), (22, .ireturn), (23, .aload_n 0), (24, .iload_n 1), (25, .iload_n 2), (26, .invokevirtual 176), (29, .ifCond .ne 6), (32, .bipush (-3)), (34, .ireturn), (35, .aload_n 0), (36, .iload_n 1), (37, .iload_n 2), (38, .invokevirtual 179), (41, .aload_n 0), (42, .getfield 118), (45, .ireturn)]
set_option maxRecDepth 100000 in
theorem cokX5_hires : q_cok cX5_hires cdX5_hires := by unfold q_cok; decide +kernel
set_option maxRecDepth 100000 in
set_option maxHeartbeats 4000000 in
theorem ctX5_hires {l : Launch} {D : va_G} {cy : Nat → Nat} {b0 : Nat} {σ : q_St} {h : q_Hp} (a0 : Nat) (x1 : Int32) (x2 : Int32) {r : Int32} {h' : q_Hp} (ta0 : q_tag σ a0 = 6) (hf : fX5_hires σ h a0 x1 x2 = some (r, h')) : q_M l yX5_hires cX5_hires 3 (some .int) 3 65 0 0 D cy b0 σ h [.ref a0, .int x1, .int x2] (some (.int r)) σ h' := by
  unfold fX5_hires at hf
  refine q_enter (by decide) (Nat.le_of_ble_eq_true rfl) ?_
  intro p e s m args below meth c C0 hr hlk hnm
  replace C0 : VC p { frames := 3, cells := 0, slots := 0, locals := 65 } s m args meth c D cy b0 3 0 0 RX5 cX5_hires := C0
  refine v_run C0 tbX5 cokX5_hires (pc' := 7) (lv' := [(0, .ref a0), (1, .int x1), (2, .int x2)]) (st' := [.int x1, .ref a0]) (h' := (q_si h a0 21 (0 : Int32))) 5 rfl ⟨ta0, trivial⟩ ?_
  obtain ⟨r1, e1, hf⟩ := q_bd hf
  refine v_callV C0 cokX5_hires rfl (rest := []) (ctX5_isSuit a0 x1 ta0 e1) calX5_isSuit lkX5_169 inX5_isSuit dnX5_isSuit (ci := 5) ⟨rfl, by decide⟩ ta0 rfl rfl ⟨by decide, by decide⟩ (Nat.le_of_ble_eq_true rfl) (Nat.le_refl _) (Nat.le_refl _) ?_
  refine v_if_eq C0 cokX5_hires rfl 21 (by decide) hf (fun _ hf => ?_) (fun _ hf => ?_)
  · refine v_run C0 tbX5 cokX5_hires (pc' := 22) (lv' := [(0, .ref a0), (1, .int x1), (2, .int x2)]) (st' := [.int (-1 : Int32)]) (h' := (q_si h a0 21 (0 : Int32))) 1 rfl trivial ?_
    obtain ⟨rfl, rfl⟩ := Prod.mk.inj (Option.some.inj hf)
    exact v_iret C0 cokX5_hires hr hlk rfl
  · refine v_run C0 tbX5 cokX5_hires (pc' := 15) (lv' := [(0, .ref a0), (1, .int x1), (2, .int x2)]) (st' := [.int x2, .ref a0]) (h' := (q_si h a0 21 (0 : Int32))) 2 rfl trivial ?_
    obtain ⟨r2, e2, hf⟩ := q_bd hf
    refine v_callV C0 cokX5_hires rfl (rest := []) (ctX5_isBooking a0 x2 ta0 e2) calX5_isBooking lkX5_173 inX5_isBooking dnX5_isBooking (ci := 5) ⟨rfl, by decide⟩ ta0 rfl rfl ⟨by decide, by decide⟩ (Nat.le_of_ble_eq_true rfl) (Nat.le_refl _) (Nat.le_refl _) ?_
    refine v_if_ne C0 cokX5_hires rfl 23 (by decide) hf (fun _ hf => ?_) (fun _ hf => ?_)
    · refine v_run C0 tbX5 cokX5_hires (pc' := 22) (lv' := [(0, .ref a0), (1, .int x1), (2, .int x2)]) (st' := [.int (-1 : Int32)]) (h' := (q_si h a0 21 (0 : Int32))) 1 rfl trivial ?_
      obtain ⟨rfl, rfl⟩ := Prod.mk.inj (Option.some.inj hf)
      exact v_iret C0 cokX5_hires hr hlk rfl
    · refine v_run C0 tbX5 cokX5_hires (pc' := 26) (lv' := [(0, .ref a0), (1, .int x1), (2, .int x2)]) (st' := [.int x2, .int x1, .ref a0]) (h' := (q_si h a0 21 (0 : Int32))) 3 rfl trivial ?_
      obtain ⟨r3, e3, hf⟩ := q_bd hf
      refine v_callV C0 cokX5_hires rfl (rest := []) (ctX5_canHire a0 x1 x2 ta0 e3) calX5_canHire lkX5_176 inX5_canHire dnX5_canHire (ci := 5) ⟨rfl, by decide⟩ ta0 rfl rfl ⟨by decide, by decide⟩ (Nat.le_of_ble_eq_true rfl) (Nat.le_refl _) (Nat.le_refl _) ?_
      refine v_if_ne C0 cokX5_hires rfl 35 (by decide) hf (fun _ hf => ?_) (fun _ hf => ?_)
      · refine v_run C0 tbX5 cokX5_hires (pc' := 34) (lv' := [(0, .ref a0), (1, .int x1), (2, .int x2)]) (st' := [.int (-3 : Int32)]) (h' := (q_si h a0 21 (0 : Int32))) 1 rfl trivial ?_
        obtain ⟨rfl, rfl⟩ := Prod.mk.inj (Option.some.inj hf)
        exact v_iret C0 cokX5_hires hr hlk rfl
      · refine v_run C0 tbX5 cokX5_hires (pc' := 38) (lv' := [(0, .ref a0), (1, .int x1), (2, .int x2)]) (st' := [.int x2, .int x1, .ref a0]) (h' := (q_si h a0 21 (0 : Int32))) 3 rfl trivial ?_
        obtain ⟨h4, e4, hf⟩ := q_bd hf
        refine v_callV C0 cokX5_hires rfl (rest := []) (ctX5_hire a0 x1 x2 ta0 e4) calX5_hire lkX5_179 inX5_hire dnX5_hire (ci := 5) ⟨rfl, by decide⟩ ta0 rfl rfl ⟨by decide, by decide⟩ (Nat.le_of_ble_eq_true rfl) (Nat.le_refl _) (Nat.le_refl _) ?_
        refine v_run C0 tbX5 cokX5_hires (pc' := 45) (lv' := [(0, .ref a0), (1, .int x1), (2, .int x2)]) (st' := [.int (q_int h4 a0 13)]) (h' := h4) 2 rfl ⟨ta0, trivial⟩ ?_
        obtain ⟨rfl, rfl⟩ := Prod.mk.inj (Option.some.inj hf)
        exact v_iret C0 cokX5_hires hr hlk rfl
-- BackByNoonOnMondayModel.returns(I)I
noncomputable def fX5_returns (σ : q_St) (h : q_Hp) (a0 : Nat) (x1 : Int32) : Option (Int32 × q_Hp) := q_gu ((q_tag σ (q_ref σ a0 5) = 7)) (((fX5_isSuit σ (q_si h a0 21 (0 : Int32)) a0 x1).bind fun r1 => (if r1 = 0 then some ((-1 : Int32), (q_si h a0 21 (0 : Int32))) else q_gu ((vp_in x1 (q_len σ (q_ref σ a0 5)))) ((if (q_int (q_si h a0 21 (0 : Int32)) (q_ref σ a0 5) (Int32.toNatClampNeg x1)) = (1 : Int32) then ((fX5_bookingOf σ (q_si h a0 21 (0 : Int32)) a0 x1).bind fun r3 => ((fX5_comeBack σ (q_si h a0 21 (0 : Int32)) a0 x1).bind fun h4 => some (r3, h4))) else some ((-3 : Int32), (q_si h a0 21 (0 : Int32))))))))
def cdX5_returns : q_Cd := [(0, .aload_n 0), (1, .iconst 0), (2, .putfield 89), (5, .aload_n 0), (6, .iload_n 1), (7, .invokevirtual 169), (10, .ifCond .ne 5), (13, .iconst (-1)), (14, .ireturn), (15, .aload_n 0), (16, .getfield 22), (19, .iload_n 1), (20, .iaload), (21, .iconst 1), (22, .if_icmp .eq 6), (25, .bipush (-3)), (27, .ireturn), (28, .aload_n 0), (29, .iload_n 1), (30, .invokevirtual 124), (33, .istore_n 2), (34, .aload_n 0), (35, .iload_n 1), (36, .invokevirtual 182), (39, .iload_n 2), (40, .ireturn)]
set_option maxRecDepth 100000 in
theorem cokX5_returns : q_cok cX5_returns cdX5_returns := by unfold q_cok; decide +kernel
set_option maxRecDepth 100000 in
set_option maxHeartbeats 4000000 in
theorem ctX5_returns {l : Launch} {D : va_G} {cy : Nat → Nat} {b0 : Nat} {σ : q_St} {h : q_Hp} (a0 : Nat) (x1 : Int32) {r : Int32} {h' : q_Hp} (ta0 : q_tag σ a0 = 6) (hf : fX5_returns σ h a0 x1 = some (r, h')) : q_M l yX5_returns cX5_returns 3 (some .int) 2 46 0 0 D cy b0 σ h [.ref a0, .int x1] (some (.int r)) σ h' := by
  unfold fX5_returns at hf
  obtain ⟨k0, hf⟩ := q_gu_o hf
  refine q_enter (by decide) (Nat.le_of_ble_eq_true rfl) ?_
  intro p e s m args below meth c C0 hr hlk hnm
  replace C0 : VC p { frames := 2, cells := 0, slots := 0, locals := 46 } s m args meth c D cy b0 3 0 0 RX5 cX5_returns := C0
  refine v_run C0 tbX5 cokX5_returns (pc' := 7) (lv' := [(0, .ref a0), (1, .int x1)]) (st' := [.int x1, .ref a0]) (h' := (q_si h a0 21 (0 : Int32))) 5 rfl ⟨ta0, trivial⟩ ?_
  obtain ⟨r1, e1, hf⟩ := q_bd hf
  refine v_callV C0 cokX5_returns rfl (rest := []) (ctX5_isSuit a0 x1 ta0 e1) calX5_isSuit lkX5_169 inX5_isSuit dnX5_isSuit (ci := 5) ⟨rfl, by decide⟩ ta0 rfl rfl ⟨by decide, by decide⟩ (Nat.le_of_ble_eq_true rfl) (Nat.le_refl _) (Nat.le_refl _) ?_
  refine v_if_ne C0 cokX5_returns rfl 15 (by decide) hf (fun _ hf => ?_) (fun _ hf => ?_)
  · refine v_run C0 tbX5 cokX5_returns (pc' := 14) (lv' := [(0, .ref a0), (1, .int x1)]) (st' := [.int (-1 : Int32)]) (h' := (q_si h a0 21 (0 : Int32))) 1 rfl trivial ?_
    obtain ⟨rfl, rfl⟩ := Prod.mk.inj (Option.some.inj hf)
    exact v_iret C0 cokX5_returns hr hlk rfl
  · obtain ⟨g2, hf⟩ := q_gu_o hf
    refine v_run C0 tbX5 cokX5_returns (pc' := 22) (lv' := [(0, .ref a0), (1, .int x1)]) (st' := [.int (1 : Int32), .int (q_int (q_si h a0 21 (0 : Int32)) (q_ref σ a0 5) (Int32.toNatClampNeg x1))]) (h' := (q_si h a0 21 (0 : Int32))) 5 rfl ⟨⟨ta0, q_tn k0⟩, ⟨k0, g2⟩, trivial⟩ ?_
    refine v_icmp_eq C0 cokX5_returns rfl 28 (by decide) hf (fun _ hf => ?_) (fun _ hf => ?_)
    · refine v_run C0 tbX5 cokX5_returns (pc' := 30) (lv' := [(0, .ref a0), (1, .int x1)]) (st' := [.int x1, .ref a0]) (h' := (q_si h a0 21 (0 : Int32))) 2 rfl trivial ?_
      obtain ⟨r3, e3, hf⟩ := q_bd hf
      refine v_callV C0 cokX5_returns rfl (rest := []) (ctX5_bookingOf a0 x1 ta0 e3) calX5_bookingOf lkX5_124 inX5_bookingOf dnX5_bookingOf (ci := 5) ⟨rfl, by decide⟩ ta0 rfl rfl ⟨by decide, by decide⟩ (Nat.le_of_ble_eq_true rfl) (Nat.le_refl _) (Nat.le_refl _) ?_
      refine v_run C0 tbX5 cokX5_returns (pc' := 36) (lv' := [(2, .int r3), (0, .ref a0), (1, .int x1)]) (st' := [.int x1, .ref a0]) (h' := (q_si h a0 21 (0 : Int32))) 3 rfl trivial ?_
      obtain ⟨h4, e4, hf⟩ := q_bd hf
      refine v_callV C0 cokX5_returns rfl (rest := []) (ctX5_comeBack a0 x1 ta0 e4) calX5_comeBack lkX5_182 inX5_comeBack dnX5_comeBack (ci := 5) ⟨rfl, by decide⟩ ta0 rfl rfl ⟨by decide, by decide⟩ (Nat.le_of_ble_eq_true rfl) (Nat.le_refl _) (Nat.le_refl _) ?_
      refine v_run C0 tbX5 cokX5_returns (pc' := 40) (lv' := [(2, .int r3), (0, .ref a0), (1, .int x1)]) (st' := [.int r3]) (h' := h4) 1 rfl trivial ?_
      obtain ⟨rfl, rfl⟩ := Prod.mk.inj (Option.some.inj hf)
      exact v_iret C0 cokX5_returns hr hlk rfl
    · refine v_run C0 tbX5 cokX5_returns (pc' := 27) (lv' := [(0, .ref a0), (1, .int x1)]) (st' := [.int (-3 : Int32)]) (h' := (q_si h a0 21 (0 : Int32))) 1 rfl trivial ?_
      obtain ⟨rfl, rfl⟩ := Prod.mk.inj (Option.some.inj hf)
      exact v_iret C0 cokX5_returns hr hlk rfl
-- BackByNoonOnMondayModel.cleans(I)I
noncomputable def fX5_cleans (σ : q_St) (h : q_Hp) (a0 : Nat) (x1 : Int32) : Option (Int32 × q_Hp) := ((fX5_isSuit σ (q_si h a0 21 (0 : Int32)) a0 x1).bind fun r1 => (if r1 = 0 then some ((-1 : Int32), (q_si h a0 21 (0 : Int32))) else ((fX5_canClean σ (q_si h a0 21 (0 : Int32)) a0 x1).bind fun r2 => (if r2 = 0 then some ((-3 : Int32), (q_si h a0 21 (0 : Int32))) else ((fX5_clean σ (q_si h a0 21 (0 : Int32)) a0 x1).bind fun h3 => some ((q_int h3 a0 14), h3))))))
def cdX5_cleans : q_Cd := [(0, .aload_n 0), (1, .iconst 0), (2, .putfield 89), (5, .aload_n 0), (6, .iload_n 1), (7, .invokevirtual 169), (10, .ifCond .ne 5), (13, .iconst (-1)), (14, .ireturn), (15, .aload_n 0), (16, .iload_n 1), (17, .invokevirtual 186), (20, .ifCond .ne 6), (23, .bipush (-3)), (25, .ireturn), (26, .aload_n 0), (27, .iload_n 1), (28, .invokevirtual 189), (31, .aload_n 0), (32, .getfield 127), (35, .ireturn)]
set_option maxRecDepth 100000 in
theorem cokX5_cleans : q_cok cX5_cleans cdX5_cleans := by unfold q_cok; decide +kernel
set_option maxRecDepth 100000 in
set_option maxHeartbeats 4000000 in
theorem ctX5_cleans {l : Launch} {D : va_G} {cy : Nat → Nat} {b0 : Nat} {σ : q_St} {h : q_Hp} (a0 : Nat) (x1 : Int32) {r : Int32} {h' : q_Hp} (ta0 : q_tag σ a0 = 6) (hf : fX5_cleans σ h a0 x1 = some (r, h')) : q_M l yX5_cleans cX5_cleans 2 (some .int) 2 46 0 0 D cy b0 σ h [.ref a0, .int x1] (some (.int r)) σ h' := by
  unfold fX5_cleans at hf
  refine q_enter (by decide) (Nat.le_of_ble_eq_true rfl) ?_
  intro p e s m args below meth c C0 hr hlk hnm
  replace C0 : VC p { frames := 2, cells := 0, slots := 0, locals := 46 } s m args meth c D cy b0 2 0 0 RX5 cX5_cleans := C0
  refine v_run C0 tbX5 cokX5_cleans (pc' := 7) (lv' := [(0, .ref a0), (1, .int x1)]) (st' := [.int x1, .ref a0]) (h' := (q_si h a0 21 (0 : Int32))) 5 rfl ⟨ta0, trivial⟩ ?_
  obtain ⟨r1, e1, hf⟩ := q_bd hf
  refine v_callV C0 cokX5_cleans rfl (rest := []) (ctX5_isSuit a0 x1 ta0 e1) calX5_isSuit lkX5_169 inX5_isSuit dnX5_isSuit (ci := 5) ⟨rfl, by decide⟩ ta0 rfl rfl ⟨by decide, by decide⟩ (Nat.le_of_ble_eq_true rfl) (Nat.le_refl _) (Nat.le_refl _) ?_
  refine v_if_ne C0 cokX5_cleans rfl 15 (by decide) hf (fun _ hf => ?_) (fun _ hf => ?_)
  · refine v_run C0 tbX5 cokX5_cleans (pc' := 14) (lv' := [(0, .ref a0), (1, .int x1)]) (st' := [.int (-1 : Int32)]) (h' := (q_si h a0 21 (0 : Int32))) 1 rfl trivial ?_
    obtain ⟨rfl, rfl⟩ := Prod.mk.inj (Option.some.inj hf)
    exact v_iret C0 cokX5_cleans hr hlk rfl
  · refine v_run C0 tbX5 cokX5_cleans (pc' := 17) (lv' := [(0, .ref a0), (1, .int x1)]) (st' := [.int x1, .ref a0]) (h' := (q_si h a0 21 (0 : Int32))) 2 rfl trivial ?_
    obtain ⟨r2, e2, hf⟩ := q_bd hf
    refine v_callV C0 cokX5_cleans rfl (rest := []) (ctX5_canClean a0 x1 ta0 e2) calX5_canClean lkX5_186 inX5_canClean dnX5_canClean (ci := 5) ⟨rfl, by decide⟩ ta0 rfl rfl ⟨by decide, by decide⟩ (Nat.le_of_ble_eq_true rfl) (Nat.le_refl _) (Nat.le_refl _) ?_
    refine v_if_ne C0 cokX5_cleans rfl 26 (by decide) hf (fun _ hf => ?_) (fun _ hf => ?_)
    · refine v_run C0 tbX5 cokX5_cleans (pc' := 25) (lv' := [(0, .ref a0), (1, .int x1)]) (st' := [.int (-3 : Int32)]) (h' := (q_si h a0 21 (0 : Int32))) 1 rfl trivial ?_
      obtain ⟨rfl, rfl⟩ := Prod.mk.inj (Option.some.inj hf)
      exact v_iret C0 cokX5_cleans hr hlk rfl
    · refine v_run C0 tbX5 cokX5_cleans (pc' := 28) (lv' := [(0, .ref a0), (1, .int x1)]) (st' := [.int x1, .ref a0]) (h' := (q_si h a0 21 (0 : Int32))) 2 rfl trivial ?_
      obtain ⟨h3, e3, hf⟩ := q_bd hf
      refine v_callV C0 cokX5_cleans rfl (rest := []) (ctX5_clean a0 x1 ta0 e3) calX5_clean lkX5_189 inX5_clean dnX5_clean (ci := 5) ⟨rfl, by decide⟩ ta0 rfl rfl ⟨by decide, by decide⟩ (Nat.le_of_ble_eq_true rfl) (Nat.le_refl _) (Nat.le_refl _) ?_
      refine v_run C0 tbX5 cokX5_cleans (pc' := 35) (lv' := [(0, .ref a0), (1, .int x1)]) (st' := [.int (q_int h3 a0 14)]) (h' := h3) 2 rfl ⟨ta0, trivial⟩ ?_
      obtain ⟨rfl, rfl⟩ := Prod.mk.inj (Option.some.inj hf)
      exact v_iret C0 cokX5_cleans hr hlk rfl
-- BackByNoonOnMondayModel.fits(II)I
noncomputable def fX5_fits (σ : q_St) (h : q_Hp) (a0 : Nat) (x1 : Int32) (x2 : Int32) : Option (Int32 × q_Hp) := ((fX5_isSuit σ (q_si h a0 21 (0 : Int32)) a0 x1).bind fun r1 => (if r1 = 0 then some ((-1 : Int32), (q_si h a0 21 (0 : Int32))) else ((fX5_isBooking σ (q_si h a0 21 (0 : Int32)) a0 x2).bind fun r2 => (if r2 = 0 then some ((-1 : Int32), (q_si h a0 21 (0 : Int32))) else ((fX5_fitsIn σ (q_si h a0 21 (0 : Int32)) a0 x1 x2).bind fun r3 => (if r3 = 0 then some ((0 : Int32), (q_si h a0 21 (0 : Int32))) else some ((1 : Int32), (q_si h a0 21 (0 : Int32)))))))))
def cdX5_fits : q_Cd := [(0, .aload_n 0), (1, .iconst 0), (2, .putfield 89), (5, .aload_n 0), (6, .iload_n 1), (7, .invokevirtual 169), (10, .ifCond .eq 28), (13, .aload_n 0), (14, .iload_n 2), (15, .invokevirtual 173), (18, .ifCond .eq 20), (21, .aload_n 0), (22, .iload_n 1), (23, .iload_n 2), (24, .invokevirtual 114), (27, .ifCond .eq 7), (30, .iconst 1), (31, .goto 8), (34, .iconst 0), (35, .goto 4), (38, .iconst (-1)), (39, .ireturn)]
set_option maxRecDepth 100000 in
theorem cokX5_fits : q_cok cX5_fits cdX5_fits := by unfold q_cok; decide +kernel
set_option maxRecDepth 100000 in
set_option maxHeartbeats 4000000 in
theorem ctX5_fits {l : Launch} {D : va_G} {cy : Nat → Nat} {b0 : Nat} {σ : q_St} {h : q_Hp} (a0 : Nat) (x1 : Int32) (x2 : Int32) {r : Int32} {h' : q_Hp} (ta0 : q_tag σ a0 = 6) (hf : fX5_fits σ h a0 x1 x2 = some (r, h')) : q_M l yX5_fits cX5_fits 3 (some .int) 2 46 0 0 D cy b0 σ h [.ref a0, .int x1, .int x2] (some (.int r)) σ h' := by
  unfold fX5_fits at hf
  refine q_enter (by decide) (Nat.le_of_ble_eq_true rfl) ?_
  intro p e s m args below meth c C0 hr hlk hnm
  replace C0 : VC p { frames := 2, cells := 0, slots := 0, locals := 46 } s m args meth c D cy b0 3 0 0 RX5 cX5_fits := C0
  refine v_run C0 tbX5 cokX5_fits (pc' := 7) (lv' := [(0, .ref a0), (1, .int x1), (2, .int x2)]) (st' := [.int x1, .ref a0]) (h' := (q_si h a0 21 (0 : Int32))) 5 rfl ⟨ta0, trivial⟩ ?_
  obtain ⟨r1, e1, hf⟩ := q_bd hf
  refine v_callV C0 cokX5_fits rfl (rest := []) (ctX5_isSuit a0 x1 ta0 e1) calX5_isSuit lkX5_169 inX5_isSuit dnX5_isSuit (ci := 5) ⟨rfl, by decide⟩ ta0 rfl rfl ⟨by decide, by decide⟩ (Nat.le_of_ble_eq_true rfl) (Nat.le_refl _) (Nat.le_refl _) ?_
  refine v_if_eq C0 cokX5_fits rfl 38 (by decide) hf (fun _ hf => ?_) (fun _ hf => ?_)
  · refine v_run C0 tbX5 cokX5_fits (pc' := 39) (lv' := [(0, .ref a0), (1, .int x1), (2, .int x2)]) (st' := [.int (-1 : Int32)]) (h' := (q_si h a0 21 (0 : Int32))) 1 rfl trivial ?_
    obtain ⟨rfl, rfl⟩ := Prod.mk.inj (Option.some.inj hf)
    exact v_iret C0 cokX5_fits hr hlk rfl
  · refine v_run C0 tbX5 cokX5_fits (pc' := 15) (lv' := [(0, .ref a0), (1, .int x1), (2, .int x2)]) (st' := [.int x2, .ref a0]) (h' := (q_si h a0 21 (0 : Int32))) 2 rfl trivial ?_
    obtain ⟨r2, e2, hf⟩ := q_bd hf
    refine v_callV C0 cokX5_fits rfl (rest := []) (ctX5_isBooking a0 x2 ta0 e2) calX5_isBooking lkX5_173 inX5_isBooking dnX5_isBooking (ci := 5) ⟨rfl, by decide⟩ ta0 rfl rfl ⟨by decide, by decide⟩ (Nat.le_of_ble_eq_true rfl) (Nat.le_refl _) (Nat.le_refl _) ?_
    refine v_if_eq C0 cokX5_fits rfl 38 (by decide) hf (fun _ hf => ?_) (fun _ hf => ?_)
    · refine v_run C0 tbX5 cokX5_fits (pc' := 39) (lv' := [(0, .ref a0), (1, .int x1), (2, .int x2)]) (st' := [.int (-1 : Int32)]) (h' := (q_si h a0 21 (0 : Int32))) 1 rfl trivial ?_
      obtain ⟨rfl, rfl⟩ := Prod.mk.inj (Option.some.inj hf)
      exact v_iret C0 cokX5_fits hr hlk rfl
    · refine v_run C0 tbX5 cokX5_fits (pc' := 24) (lv' := [(0, .ref a0), (1, .int x1), (2, .int x2)]) (st' := [.int x2, .int x1, .ref a0]) (h' := (q_si h a0 21 (0 : Int32))) 3 rfl trivial ?_
      obtain ⟨r3, e3, hf⟩ := q_bd hf
      refine v_callV C0 cokX5_fits rfl (rest := []) (ctX5_fitsIn a0 x1 x2 ta0 e3) calX5_fitsIn lkX5_114 inX5_fitsIn dnX5_fitsIn (ci := 5) ⟨rfl, by decide⟩ ta0 rfl rfl ⟨by decide, by decide⟩ (Nat.le_of_ble_eq_true rfl) (Nat.le_refl _) (Nat.le_refl _) ?_
      refine v_if_eq C0 cokX5_fits rfl 34 (by decide) hf (fun _ hf => ?_) (fun _ hf => ?_)
      · refine v_run C0 tbX5 cokX5_fits (pc' := 39) (lv' := [(0, .ref a0), (1, .int x1), (2, .int x2)]) (st' := [.int (0 : Int32)]) (h' := (q_si h a0 21 (0 : Int32))) 2 rfl trivial ?_
        obtain ⟨rfl, rfl⟩ := Prod.mk.inj (Option.some.inj hf)
        exact v_iret C0 cokX5_fits hr hlk rfl
      · refine v_run C0 tbX5 cokX5_fits (pc' := 39) (lv' := [(0, .ref a0), (1, .int x1), (2, .int x2)]) (st' := [.int (1 : Int32)]) (h' := (q_si h a0 21 (0 : Int32))) 2 rfl trivial ?_
        obtain ⟨rfl, rfl⟩ := Prod.mk.inj (Option.some.inj hf)
        exact v_iret C0 cokX5_fits hr hlk rfl
-- BackByNoonOnMondayModel.mayHave(II)Z
noncomputable def fX5_mayHave_25 (σ : q_St) (h : q_Hp) (a0 : Nat) (x1 : Int32) (x2 : Int32) (s0 : Int32) : Option Int32 := (if s0 = 0 then some (0 : Int32) else ((fX5_fitsIn σ h a0 x1 x2).bind fun r3 => (if r3 = 0 then some (0 : Int32) else q_gu ((vp_in x2 (q_len σ (q_ref σ a0 8))) ∧ (vp_in (q_int h (q_ref σ a0 8) (Int32.toNatClampNeg x2)) (q_len σ (q_ref σ a0 36)))) ((if (q_int h (q_ref σ a0 36) (Int32.toNatClampNeg (q_int h (q_ref σ a0 8) (Int32.toNatClampNeg x2)))) < 0 then some (1 : Int32) else q_gu ((vp_in x1 (q_len σ (q_ref σ a0 1)))) ((if (q_int h (q_ref σ a0 36) (Int32.toNatClampNeg (q_int h (q_ref σ a0 8) (Int32.toNatClampNeg x2)))) = (q_int h (q_ref σ a0 1) (Int32.toNatClampNeg x1)) then some (1 : Int32) else some (0 : Int32))))))))
noncomputable def fX5_mayHave_24 (σ : q_St) (h : q_Hp) (a0 : Nat) (x1 : Int32) (x2 : Int32) : Option Int32 := fX5_mayHave_25 σ h a0 x1 x2 (0 : Int32)
noncomputable def fX5_mayHave (σ : q_St) (h : q_Hp) (a0 : Nat) (x1 : Int32) (x2 : Int32) : Option Int32 := q_gu ((q_tag σ (q_ref σ a0 5) = 7) ∧ (q_tag σ (q_ref σ a0 36) = 7) ∧ (q_tag σ (q_ref σ a0 8) = 7) ∧ (q_tag σ (q_ref σ a0 1) = 7)) (q_gu ((vp_in x1 (q_len σ (q_ref σ a0 5)))) ((if (q_int h (q_ref σ a0 5) (Int32.toNatClampNeg x1)) = 0 then ((fX5_hasBit σ h (q_int h a0 37) x1).bind fun r2 => (if r2 = 0 then fX5_mayHave_25 σ h a0 x1 x2 (1 : Int32) else fX5_mayHave_24 σ h a0 x1 x2)) else fX5_mayHave_24 σ h a0 x1 x2)))
def cdX5_mayHave : q_Cd := [(0, .aload_n 0), (1, .getfield 22), (4, .iload_n 1), (5, .iaload), (6, .ifCond .ne 18), (9, .aload_n 0), (10, .getfield 240), (13, .iload_n 1), (14, .invokestatic 243), (17, .ifCond .ne 7), (20, .iconst 1), (21, .goto 4), (24, .iconst 0), (25, .istore_n 3), (26, .iload_n 3), (27, .ifCond .eq 50), (30, .aload_n 0), (31, .iload_n 1), (32, .iload_n 2), (33, .invokevirtual 114), (36, .ifCond .eq 41), (39, .aload_n 0), (40, .getfield 77), (43, .aload_n 0), (44, .getfield 28), (47, .iload_n 2), (48, .iaload), (49, .iaload), (50, .ifCond .lt 23), (53, .aload_n 0), (54, .getfield 77), (57, .aload_n 0), (58, .getfield 28), (61, .iload_n 2), (62, .iaload), (63, .iaload), (64, .aload_n 0), (65, .getfield 7), (68, .iload_n 1), (69, .iaload), (70, .if_icmp .ne 7), (73, .iconst 1), (74, .goto 4), (77, .iconst 0), (78, .ireturn)]
set_option maxRecDepth 100000 in
theorem cokX5_mayHave : q_cok cX5_mayHave cdX5_mayHave := by unfold q_cok; decide +kernel
set_option maxRecDepth 100000 in
set_option maxHeartbeats 4000000 in
theorem ctX5_mayHave {l : Launch} {D : va_G} {cy : Nat → Nat} {b0 : Nat} {σ : q_St} {h : q_Hp} (a0 : Nat) (x1 : Int32) (x2 : Int32) {r : Int32} (ta0 : q_tag σ a0 = 6) (hf : fX5_mayHave σ h a0 x1 x2 = some r) : q_M l yX5_mayHave cX5_mayHave 4 (some .boolean) 2 43 0 0 D cy b0 σ h [.ref a0, .int x1, .int x2] (some (.int r)) σ h := by
  unfold fX5_mayHave at hf
  obtain ⟨⟨k0, k1, k2, k3⟩, hf⟩ := q_gu_o hf
  refine q_enter (by decide) (Nat.le_of_ble_eq_true rfl) ?_
  intro p e s m args below meth c C0 hr hlk hnm
  replace C0 : VC p { frames := 2, cells := 0, slots := 0, locals := 43 } s m args meth c D cy b0 4 0 0 RX5 cX5_mayHave := C0
  have n25 : ∀ (s0 : Int32), fX5_mayHave_25 σ h a0 x1 x2 s0 = some r → V p l e { frames := 2, cells := 0, slots := 0, locals := 43 } s m args below meth c (MQ below (q_Qc D cy b0 (some (.int r)) σ h) args s 0 0 (fun q => b0 ≤ q)) D cy b0 4 0 0 0 0 σ h 25 [(0, .ref a0), (1, .int x1), (2, .int x2)] [.int s0] := by
    intro s0 hf
    unfold fX5_mayHave_25 at hf
    refine v_run C0 tbX5 cokX5_mayHave (pc' := 27) (lv' := [(3, .int s0), (0, .ref a0), (1, .int x1), (2, .int x2)]) (st' := [.int s0]) (h' := h) 2 rfl trivial ?_
    refine v_if_eq C0 cokX5_mayHave rfl 77 (by decide) hf (fun _ hf => ?_) (fun _ hf => ?_)
    · refine v_run C0 tbX5 cokX5_mayHave (pc' := 78) (lv' := [(3, .int s0), (0, .ref a0), (1, .int x1), (2, .int x2)]) (st' := [.int (0 : Int32)]) (h' := h) 1 rfl trivial ?_
      obtain rfl := Option.some.inj hf
      exact v_zret C0 cokX5_mayHave hr hlk rfl (Or.inl rfl)
    · refine v_run C0 tbX5 cokX5_mayHave (pc' := 33) (lv' := [(3, .int s0), (0, .ref a0), (1, .int x1), (2, .int x2)]) (st' := [.int x2, .int x1, .ref a0]) (h' := h) 3 rfl trivial ?_
      obtain ⟨r3, e3, hf⟩ := q_bd hf
      refine v_callV C0 cokX5_mayHave rfl (rest := []) (ctX5_fitsIn a0 x1 x2 ta0 e3) calX5_fitsIn lkX5_114 inX5_fitsIn dnX5_fitsIn (ci := 5) ⟨rfl, by decide⟩ ta0 rfl rfl ⟨by decide, by decide⟩ (Nat.le_of_ble_eq_true rfl) (Nat.le_refl _) (Nat.le_refl _) ?_
      refine v_if_eq C0 cokX5_mayHave rfl 77 (by decide) hf (fun _ hf => ?_) (fun _ hf => ?_)
      · refine v_run C0 tbX5 cokX5_mayHave (pc' := 78) (lv' := [(3, .int s0), (0, .ref a0), (1, .int x1), (2, .int x2)]) (st' := [.int (0 : Int32)]) (h' := h) 1 rfl trivial ?_
        obtain rfl := Option.some.inj hf
        exact v_zret C0 cokX5_mayHave hr hlk rfl (Or.inl rfl)
      · obtain ⟨⟨g4, g5⟩, hf⟩ := q_gu_o hf
        refine v_run C0 tbX5 cokX5_mayHave (pc' := 50) (lv' := [(3, .int s0), (0, .ref a0), (1, .int x1), (2, .int x2)]) (st' := [.int (q_int h (q_ref σ a0 36) (Int32.toNatClampNeg (q_int h (q_ref σ a0 8) (Int32.toNatClampNeg x2))))]) (h' := h) 7 rfl ⟨⟨ta0, q_tn k1⟩, ⟨ta0, q_tn k2⟩, ⟨k2, g4⟩, ⟨k1, g5⟩, trivial⟩ ?_
        refine v_if_lt C0 cokX5_mayHave rfl 73 (by decide) hf (fun _ hf => ?_) (fun _ hf => ?_)
        · refine v_run C0 tbX5 cokX5_mayHave (pc' := 78) (lv' := [(3, .int s0), (0, .ref a0), (1, .int x1), (2, .int x2)]) (st' := [.int (1 : Int32)]) (h' := h) 2 rfl trivial ?_
          obtain rfl := Option.some.inj hf
          exact v_zret C0 cokX5_mayHave hr hlk rfl (Or.inr rfl)
        · obtain ⟨g6, hf⟩ := q_gu_o hf
          refine v_run C0 tbX5 cokX5_mayHave (pc' := 70) (lv' := [(3, .int s0), (0, .ref a0), (1, .int x1), (2, .int x2)]) (st' := [.int (q_int h (q_ref σ a0 1) (Int32.toNatClampNeg x1)), .int (q_int h (q_ref σ a0 36) (Int32.toNatClampNeg (q_int h (q_ref σ a0 8) (Int32.toNatClampNeg x2))))]) (h' := h) 11 rfl ⟨⟨ta0, q_tn k1⟩, ⟨ta0, q_tn k2⟩, ⟨k2, g4⟩, ⟨k1, g5⟩, ⟨ta0, q_tn k3⟩, ⟨k3, g6⟩, trivial⟩ ?_
          refine v_icmp_ne C0 cokX5_mayHave rfl 77 (by decide) hf (fun _ hf => ?_) (fun _ hf => ?_)
          · refine v_run C0 tbX5 cokX5_mayHave (pc' := 78) (lv' := [(3, .int s0), (0, .ref a0), (1, .int x1), (2, .int x2)]) (st' := [.int (1 : Int32)]) (h' := h) 2 rfl trivial ?_
            obtain rfl := Option.some.inj hf
            exact v_zret C0 cokX5_mayHave hr hlk rfl (Or.inr rfl)
          · refine v_run C0 tbX5 cokX5_mayHave (pc' := 78) (lv' := [(3, .int s0), (0, .ref a0), (1, .int x1), (2, .int x2)]) (st' := [.int (0 : Int32)]) (h' := h) 1 rfl trivial ?_
            obtain rfl := Option.some.inj hf
            exact v_zret C0 cokX5_mayHave hr hlk rfl (Or.inl rfl)
  have n24 : fX5_mayHave_24 σ h a0 x1 x2 = some r → V p l e { frames := 2, cells := 0, slots := 0, locals := 43 } s m args below meth c (MQ below (q_Qc D cy b0 (some (.int r)) σ h) args s 0 0 (fun q => b0 ≤ q)) D cy b0 4 0 0 0 0 σ h 24 [(0, .ref a0), (1, .int x1), (2, .int x2)] [] := by
    intro hf
    unfold fX5_mayHave_24 at hf
    refine v_run C0 tbX5 cokX5_mayHave (pc' := 25) (lv' := [(0, .ref a0), (1, .int x1), (2, .int x2)]) (st' := [.int (0 : Int32)]) (h' := h) 1 rfl trivial ?_
    refine v_pick [0, 1, 2] rfl ?_
    exact n25 (0 : Int32) hf
  obtain ⟨g1, hf⟩ := q_gu_o hf
  refine v_run C0 tbX5 cokX5_mayHave (pc' := 6) (lv' := [(0, .ref a0), (1, .int x1), (2, .int x2)]) (st' := [.int (q_int h (q_ref σ a0 5) (Int32.toNatClampNeg x1))]) (h' := h) 4 rfl ⟨⟨ta0, q_tn k0⟩, ⟨k0, g1⟩, trivial⟩ ?_
  refine v_if_ne C0 cokX5_mayHave rfl 24 (by decide) hf (fun _ hf => ?_) (fun _ hf => ?_)
  · refine v_run C0 tbX5 cokX5_mayHave (pc' := 14) (lv' := [(0, .ref a0), (1, .int x1), (2, .int x2)]) (st' := [.int x1, .int (q_int h a0 37)]) (h' := h) 3 rfl ⟨ta0, trivial⟩ ?_
    obtain ⟨r2, e2, hf⟩ := q_bd hf
    refine v_callS C0 cokX5_mayHave rfl (rest := []) (ctX5_hasBit (q_int h a0 37) x1 e2) calX5_hasBit lkX5_243 inX5_hasBit dnX5_hasBit rfl rfl ⟨by decide, by decide⟩ (Nat.le_of_ble_eq_true rfl) (Nat.le_refl _) (Nat.le_refl _) ?_
    refine v_if_ne C0 cokX5_mayHave rfl 24 (by decide) hf (fun _ hf => ?_) (fun _ hf => ?_)
    · refine v_run C0 tbX5 cokX5_mayHave (pc' := 25) (lv' := [(0, .ref a0), (1, .int x1), (2, .int x2)]) (st' := [.int (1 : Int32)]) (h' := h) 2 rfl trivial ?_
      refine v_pick [0, 1, 2] rfl ?_
      exact n25 (1 : Int32) hf
    · refine v_pick [0, 1, 2] rfl ?_
      exact n24 hf
  · refine v_pick [0, 1, 2] rfl ?_
    exact n24 hf
-- BackByNoonOnMondayModel.isOpen(I)Z
noncomputable def fX5_isOpen (σ : q_St) (h : q_Hp) (a0 : Nat) (x1 : Int32) : Option Int32 := q_gu ((q_tag σ (q_ref σ a0 12) = 7)) (q_gu ((vp_in x1 (q_len σ (q_ref σ a0 12)))) ((if (q_int h (q_ref σ a0 12) (Int32.toNatClampNeg x1)) = (9 : Int32) then ((fX5_hasBit σ h (q_int h a0 38) x1).bind fun r2 => (if r2 = 0 then some (1 : Int32) else some (0 : Int32))) else some (0 : Int32))))
def cdX5_isOpen : q_Cd := [(0, .aload_n 0), (1, .getfield 40), (4, .iload_n 1), (5, .iaload), (6, .bipush 9), (8, .if_icmp .ne 18), (11, .aload_n 0), (12, .getfield 246), (15, .iload_n 1), (16, .invokestatic 243), (19, .ifCond .ne 7), (22, .iconst 1), (23, .goto 4), (26, .iconst 0), (27, .ireturn)]
set_option maxRecDepth 100000 in
theorem cokX5_isOpen : q_cok cX5_isOpen cdX5_isOpen := by unfold q_cok; decide +kernel
set_option maxRecDepth 100000 in
set_option maxHeartbeats 4000000 in
theorem ctX5_isOpen {l : Launch} {D : va_G} {cy : Nat → Nat} {b0 : Nat} {σ : q_St} {h : q_Hp} (a0 : Nat) (x1 : Int32) {r : Int32} (ta0 : q_tag σ a0 = 6) (hf : fX5_isOpen σ h a0 x1 = some r) : q_M l yX5_isOpen cX5_isOpen 2 (some .boolean) 1 21 0 0 D cy b0 σ h [.ref a0, .int x1] (some (.int r)) σ h := by
  unfold fX5_isOpen at hf
  obtain ⟨k0, hf⟩ := q_gu_o hf
  refine q_enter (by decide) (Nat.le_of_ble_eq_true rfl) ?_
  intro p e s m args below meth c C0 hr hlk hnm
  replace C0 : VC p { frames := 1, cells := 0, slots := 0, locals := 21 } s m args meth c D cy b0 2 0 0 RX5 cX5_isOpen := C0
  obtain ⟨g1, hf⟩ := q_gu_o hf
  refine v_run C0 tbX5 cokX5_isOpen (pc' := 8) (lv' := [(0, .ref a0), (1, .int x1)]) (st' := [.int (9 : Int32), .int (q_int h (q_ref σ a0 12) (Int32.toNatClampNeg x1))]) (h' := h) 5 rfl ⟨⟨ta0, q_tn k0⟩, ⟨k0, g1⟩, trivial⟩ ?_
  refine v_icmp_ne C0 cokX5_isOpen rfl 26 (by decide) hf (fun _ hf => ?_) (fun _ hf => ?_)
  · refine v_run C0 tbX5 cokX5_isOpen (pc' := 16) (lv' := [(0, .ref a0), (1, .int x1)]) (st' := [.int x1, .int (q_int h a0 38)]) (h' := h) 3 rfl ⟨ta0, trivial⟩ ?_
    obtain ⟨r2, e2, hf⟩ := q_bd hf
    refine v_callS C0 cokX5_isOpen rfl (rest := []) (ctX5_hasBit (q_int h a0 38) x1 e2) calX5_hasBit lkX5_243 inX5_hasBit dnX5_hasBit rfl rfl ⟨by decide, by decide⟩ (Nat.le_of_ble_eq_true rfl) (Nat.le_refl _) (Nat.le_refl _) ?_
    refine v_if_ne C0 cokX5_isOpen rfl 26 (by decide) hf (fun _ hf => ?_) (fun _ hf => ?_)
    · refine v_run C0 tbX5 cokX5_isOpen (pc' := 27) (lv' := [(0, .ref a0), (1, .int x1)]) (st' := [.int (1 : Int32)]) (h' := h) 2 rfl trivial ?_
      obtain rfl := Option.some.inj hf
      exact v_zret C0 cokX5_isOpen hr hlk rfl (Or.inr rfl)
    · refine v_run C0 tbX5 cokX5_isOpen (pc' := 27) (lv' := [(0, .ref a0), (1, .int x1)]) (st' := [.int (0 : Int32)]) (h' := h) 1 rfl trivial ?_
      obtain rfl := Option.some.inj hf
      exact v_zret C0 cokX5_isOpen hr hlk rfl (Or.inl rfl)
  · refine v_run C0 tbX5 cokX5_isOpen (pc' := 27) (lv' := [(0, .ref a0), (1, .int x1)]) (st' := [.int (0 : Int32)]) (h' := h) 1 rfl trivial ?_
    obtain rfl := Option.some.inj hf
    exact v_zret C0 cokX5_isOpen hr hlk rfl (Or.inl rfl)
-- BackByNoonOnMondayModel.mostBy(II)I
noncomputable def fX5_mostBy_100 (σ : q_St) (h : q_Hp) (a0 : Nat) (x1 : Int32) (x2 : Int32) (x3 : Int32) (x4 : Int32) : Option ((Int32 × Int32) ⊕ Int32) := some (Sum.inl (x3, (x4 + (1 : Int32))))
noncomputable def fX5_mostBy_74 (σ : q_St) (h : q_Hp) (a0 : Nat) (x1 : Int32) (x2 : Int32) (x4 : Int32) (s0 : Int32) (s1 : Int32) : Option ((Int32 × Int32) ⊕ Int32) := q_gu ((vp_in ((((256 : Int32) * x1) + (256 : Int32)) + (x2 ||| ((1 : Int32) <<< (x4 &&& 31)))) (q_len σ (q_ref σ a0 39)))) (((fX5_greater σ h s1 (s0 + (q_int h (q_ref σ a0 39) (Int32.toNatClampNeg ((((256 : Int32) * x1) + (256 : Int32)) + (x2 ||| ((1 : Int32) <<< (x4 &&& 31)))))))).bind fun r8 => fX5_mostBy_100 σ h a0 x1 x2 r8 x4))
noncomputable def fX5_mostBy_20 (σ : q_St) (h : q_Hp) (a0 : Nat) (x1 : Int32) (x2 : Int32) (x3 : Int32) (x4 : Int32) : Option ((Int32 × Int32) ⊕ Int32) := (if (q_int h a0 0) ≤ x4 then some (Sum.inr x3) else ((fX5_isOpen σ h a0 x1).bind fun r3 => (if r3 = 0 then some (Sum.inr x3) else ((fX5_hasBit σ h x2 x4).bind fun r4 => (if r4 = 0 then ((fX5_mayHave σ h a0 x4 x1).bind fun r5 => (if r5 = 0 then fX5_mostBy_100 σ h a0 x1 x2 x3 x4 else (if (q_int h a0 35) = 0 then fX5_mostBy_74 σ h a0 x1 x2 x4 (1 : Int32) x3 else ((fX5_priceOf σ h a0 x4).bind fun r6 => fX5_mostBy_74 σ h a0 x1 x2 x4 r6 x3)))) else fX5_mostBy_100 σ h a0 x1 x2 x3 x4)))))
noncomputable def fX5_mostBy (σ : q_St) (h : q_Hp) (a0 : Nat) (x1 : Int32) (x2 : Int32) : Option Int32 := q_gu ((q_tag σ (q_ref σ a0 39) = 7)) (q_gu ((vp_in ((((256 : Int32) * x1) + (256 : Int32)) + x2) (q_len σ (q_ref σ a0 39)))) ((q_loop (fun s => fX5_mostBy_20 σ h a0 x1 x2 s.1 s.2) q_N ((q_int h (q_ref σ a0 39) (Int32.toNatClampNeg ((((256 : Int32) * x1) + (256 : Int32)) + x2))), (0 : Int32))).bind fun o2 => some o2))
def cdX5_mostBy : q_Cd := [(0, .aload_n 0), (1, .getfield 80), (4, .sipush 256), (7, .iload_n 1), (8, .imul), (9, .sipush 256), (12, .iadd), (13, .iload_n 2), (14, .iadd), (15, .iaload), (16, .istore_n 3), (17, .iconst 0), (18, .istore 4), (20, .iload 4), (22, .aload_n 0), (23, .getfield 93), (26, .if_icmp .ge 80), (29, .aload_n 0), (30, .iload_n 1), (31, .invokevirtual 249), (34, .ifCond .eq 72), (37, .iload_n 2), (38, .iload 4), (40, .invokestatic 243), (43, .ifCond .ne 57), (46, .aload_n 0), (47, .iload 4), (49, .iload_n 1), (50, .invokevirtual 252), (53, .ifCond .eq 47), (56, .iload_n 3), (57, .aload_n 0), (58, .getfield 255), (61, .ifCond .eq 12), (64, .aload_n 0), (65, .iload 4), (67, .invokevirtual 121), (70, .goto 4), (73, .iconst 1), (74, .aload_n 0), (75, .getfield 80), (78, .sipush 256), (81, .iload_n 1), (82, .imul), (83, .sipush 256), (86, .iadd), (87, .iload_n 2), (88, .iconst 1), (89, .iload 4), (91, .ishl), (92, .ior), (93, .iadd), (94, .iaload), (95, .iadd), (96, .invokestatic 258), (99, .istore_n 3), (100, .iinc 4 1), (103, .goto (-83)), (106, .iload_n 3), (107, .ireturn)]
set_option maxRecDepth 100000 in
theorem cokX5_mostBy : q_cok cX5_mostBy cdX5_mostBy := by unfold q_cok; decide +kernel
set_option maxRecDepth 100000 in
set_option maxHeartbeats 4000000 in
theorem ctX5_mostBy {l : Launch} {D : va_G} {cy : Nat → Nat} {b0 : Nat} {σ : q_St} {h : q_Hp} (a0 : Nat) (x1 : Int32) (x2 : Int32) {r : Int32} (ta0 : q_tag σ a0 = 6) (hf : fX5_mostBy σ h a0 x1 x2 = some r) : q_M l yX5_mostBy cX5_mostBy 5 (some .int) 3 66 0 0 D cy b0 σ h [.ref a0, .int x1, .int x2] (some (.int r)) σ h := by
  unfold fX5_mostBy at hf
  obtain ⟨k0, hf⟩ := q_gu_o hf
  refine q_enter (by decide) (Nat.le_of_ble_eq_true rfl) ?_
  intro p e s m args below meth c C0 hr hlk hnm
  replace C0 : VC p { frames := 3, cells := 0, slots := 0, locals := 66 } s m args meth c D cy b0 5 0 0 RX5 cX5_mostBy := C0
  have n20 : ∀ (o : Int32) (s1 : (Int32 × Int32)), q_loop (fun s => fX5_mostBy_20 σ h a0 x1 x2 s.1 s.2) q_N s1 = some o → V p l e { frames := 3, cells := 0, slots := 0, locals := 66 } s m args below meth c (MQ below (q_Qc D cy b0 (some (.int r)) σ h) args s 0 0 (fun q => b0 ≤ q)) D cy b0 5 0 0 0 0 σ h 106 [(3, .int o)] [] → V p l e { frames := 3, cells := 0, slots := 0, locals := 66 } s m args below meth c (MQ below (q_Qc D cy b0 (some (.int r)) σ h) args s 0 0 (fun q => b0 ≤ q)) D cy b0 5 0 0 0 0 σ h 20 [(0, .ref a0), (1, .int x1), (2, .int x2), (3, .int s1.1), (4, .int s1.2)] [] := by
    intro o s1 ho kx1
    refine q_loop_V (P := fun s0 => V p l e { frames := 3, cells := 0, slots := 0, locals := 66 } s m args below meth c (MQ below (q_Qc D cy b0 (some (.int r)) σ h) args s 0 0 (fun q => b0 ≤ q)) D cy b0 5 0 0 0 0 σ h 20 [(0, .ref a0), (1, .int x1), (2, .int x2), (3, .int s0.1), (4, .int s0.2)] []) (o := o) ?_ q_N s1 ho
    intro s2 z1 hf kb1 kr1
    obtain ⟨x3, x4⟩ := s2
    replace hf : fX5_mostBy_20 σ h a0 x1 x2 x3 x4 = some z1 := hf
    unfold fX5_mostBy_20 at hf
    show V p l e { frames := 3, cells := 0, slots := 0, locals := 66 } s m args below meth c (MQ below (q_Qc D cy b0 (some (.int r)) σ h) args s 0 0 (fun q => b0 ≤ q)) D cy b0 5 0 0 0 0 σ h 20 [(0, .ref a0), (1, .int x1), (2, .int x2), (3, .int x3), (4, .int x4)] []
    have n100 : ∀ (x3 : Int32) (x4 : Int32), fX5_mostBy_100 σ h a0 x1 x2 x3 x4 = some z1 → V p l e { frames := 3, cells := 0, slots := 0, locals := 66 } s m args below meth c (MQ below (q_Qc D cy b0 (some (.int r)) σ h) args s 0 0 (fun q => b0 ≤ q)) D cy b0 5 0 0 0 0 σ h 100 [(0, .ref a0), (1, .int x1), (2, .int x2), (3, .int x3), (4, .int x4)] [] := by
      intro x3 x4 hf
      unfold fX5_mostBy_100 at hf
      refine v_run C0 tbX5 cokX5_mostBy (pc' := 20) (lv' := [(4, .int (x4 + (1 : Int32))), (0, .ref a0), (1, .int x1), (2, .int x2), (3, .int x3)]) (st' := []) (h' := h) 2 rfl trivial ?_
      obtain rfl := Option.some.inj hf
      refine v_pick [1, 2, 3, 4, 0] rfl ?_
      exact kb1 _ rfl
    have n74 : ∀ (x4 : Int32) (s0 : Int32) (s1 : Int32), fX5_mostBy_74 σ h a0 x1 x2 x4 s0 s1 = some z1 → V p l e { frames := 3, cells := 0, slots := 0, locals := 66 } s m args below meth c (MQ below (q_Qc D cy b0 (some (.int r)) σ h) args s 0 0 (fun q => b0 ≤ q)) D cy b0 5 0 0 0 0 σ h 74 [(0, .ref a0), (1, .int x1), (2, .int x2), (4, .int x4)] [.int s0, .int s1] := by
      intro x4 s0 s1 hf
      unfold fX5_mostBy_74 at hf
      obtain ⟨g7, hf⟩ := q_gu_o hf
      refine v_run C0 tbX5 cokX5_mostBy (pc' := 96) (lv' := [(0, .ref a0), (1, .int x1), (2, .int x2), (4, .int x4)]) (st' := [.int (s0 + (q_int h (q_ref σ a0 39) (Int32.toNatClampNeg ((((256 : Int32) * x1) + (256 : Int32)) + (x2 ||| ((1 : Int32) <<< (x4 &&& 31))))))), .int s1]) (h' := h) 15 rfl ⟨⟨ta0, q_tn k0⟩, ⟨k0, g7⟩, trivial⟩ ?_
      obtain ⟨r8, e8, hf⟩ := q_bd hf
      refine v_callS C0 cokX5_mostBy rfl (rest := []) (ctX5_greater s1 (s0 + (q_int h (q_ref σ a0 39) (Int32.toNatClampNeg ((((256 : Int32) * x1) + (256 : Int32)) + (x2 ||| ((1 : Int32) <<< (x4 &&& 31))))))) e8) calX5_greater lkX5_258 inX5_greater dnX5_greater rfl rfl ⟨by decide, by decide⟩ (Nat.le_of_ble_eq_true rfl) (Nat.le_refl _) (Nat.le_refl _) ?_
      refine v_run C0 tbX5 cokX5_mostBy (pc' := 100) (lv' := [(3, .int r8), (0, .ref a0), (1, .int x1), (2, .int x2), (4, .int x4)]) (st' := []) (h' := h) 1 rfl trivial ?_
      refine v_pick [1, 2, 3, 0, 4] rfl ?_
      exact n100 r8 x4 hf
    refine v_run C0 tbX5 cokX5_mostBy (pc' := 26) (lv' := [(0, .ref a0), (1, .int x1), (2, .int x2), (3, .int x3), (4, .int x4)]) (st' := [.int (q_int h a0 0), .int x4]) (h' := h) 3 rfl ⟨ta0, trivial⟩ ?_
    refine v_icmp_ge C0 cokX5_mostBy rfl 106 (by decide) hf (fun _ hf => ?_) (fun _ hf => ?_)
    · obtain rfl := Option.some.inj hf
      refine v_pick [3] rfl ?_
      have hx := kr1 _ rfl
      subst hx
      exact kx1
    · refine v_run C0 tbX5 cokX5_mostBy (pc' := 31) (lv' := [(0, .ref a0), (1, .int x1), (2, .int x2), (3, .int x3), (4, .int x4)]) (st' := [.int x1, .ref a0]) (h' := h) 2 rfl trivial ?_
      obtain ⟨r3, e3, hf⟩ := q_bd hf
      refine v_callV C0 cokX5_mostBy rfl (rest := []) (ctX5_isOpen a0 x1 ta0 e3) calX5_isOpen lkX5_249 inX5_isOpen dnX5_isOpen (ci := 5) ⟨rfl, by decide⟩ ta0 rfl rfl ⟨by decide, by decide⟩ (Nat.le_of_ble_eq_true rfl) (Nat.le_refl _) (Nat.le_refl _) ?_
      refine v_if_eq C0 cokX5_mostBy rfl 106 (by decide) hf (fun _ hf => ?_) (fun _ hf => ?_)
      · obtain rfl := Option.some.inj hf
        refine v_pick [3] rfl ?_
        have hx := kr1 _ rfl
        subst hx
        exact kx1
      · refine v_run C0 tbX5 cokX5_mostBy (pc' := 40) (lv' := [(0, .ref a0), (1, .int x1), (2, .int x2), (3, .int x3), (4, .int x4)]) (st' := [.int x4, .int x2]) (h' := h) 2 rfl trivial ?_
        obtain ⟨r4, e4, hf⟩ := q_bd hf
        refine v_callS C0 cokX5_mostBy rfl (rest := []) (ctX5_hasBit x2 x4 e4) calX5_hasBit lkX5_243 inX5_hasBit dnX5_hasBit rfl rfl ⟨by decide, by decide⟩ (Nat.le_of_ble_eq_true rfl) (Nat.le_refl _) (Nat.le_refl _) ?_
        refine v_if_ne C0 cokX5_mostBy rfl 100 (by decide) hf (fun _ hf => ?_) (fun _ hf => ?_)
        · refine v_run C0 tbX5 cokX5_mostBy (pc' := 50) (lv' := [(0, .ref a0), (1, .int x1), (2, .int x2), (3, .int x3), (4, .int x4)]) (st' := [.int x1, .int x4, .ref a0]) (h' := h) 3 rfl trivial ?_
          obtain ⟨r5, e5, hf⟩ := q_bd hf
          refine v_callV C0 cokX5_mostBy rfl (rest := []) (ctX5_mayHave a0 x4 x1 ta0 e5) calX5_mayHave lkX5_252 inX5_mayHave dnX5_mayHave (ci := 5) ⟨rfl, by decide⟩ ta0 rfl rfl ⟨by decide, by decide⟩ (Nat.le_of_ble_eq_true rfl) (Nat.le_refl _) (Nat.le_refl _) ?_
          refine v_if_eq C0 cokX5_mostBy rfl 100 (by decide) hf (fun _ hf => ?_) (fun _ hf => ?_)
          · refine v_pick [0, 1, 2, 3, 4] rfl ?_
            exact n100 x3 x4 hf
          · refine v_run C0 tbX5 cokX5_mostBy (pc' := 61) (lv' := [(0, .ref a0), (1, .int x1), (2, .int x2), (3, .int x3), (4, .int x4)]) (st' := [.int (q_int h a0 35), .int x3]) (h' := h) 3 rfl ⟨ta0, trivial⟩ ?_
            refine v_if_eq C0 cokX5_mostBy rfl 73 (by decide) hf (fun _ hf => ?_) (fun _ hf => ?_)
            · refine v_run C0 tbX5 cokX5_mostBy (pc' := 74) (lv' := [(0, .ref a0), (1, .int x1), (2, .int x2), (3, .int x3), (4, .int x4)]) (st' := [.int (1 : Int32), .int x3]) (h' := h) 1 rfl trivial ?_
              refine v_pick [0, 1, 2, 4] rfl ?_
              exact n74 x4 (1 : Int32) x3 hf
            · refine v_run C0 tbX5 cokX5_mostBy (pc' := 67) (lv' := [(0, .ref a0), (1, .int x1), (2, .int x2), (3, .int x3), (4, .int x4)]) (st' := [.int x4, .ref a0, .int x3]) (h' := h) 2 rfl trivial ?_
              obtain ⟨r6, e6, hf⟩ := q_bd hf
              refine v_callV C0 cokX5_mostBy rfl (rest := [.int x3]) (ctX5_priceOf a0 x4 ta0 e6) calX5_priceOf lkX5_121 inX5_priceOf dnX5_priceOf (ci := 5) ⟨rfl, by decide⟩ ta0 rfl rfl ⟨by decide, by decide⟩ (Nat.le_of_ble_eq_true rfl) (Nat.le_refl _) (Nat.le_refl _) ?_
              refine v_run C0 tbX5 cokX5_mostBy (pc' := 74) (lv' := [(0, .ref a0), (1, .int x1), (2, .int x2), (3, .int x3), (4, .int x4)]) (st' := [.int r6, .int x3]) (h' := h) 1 rfl trivial ?_
              refine v_pick [0, 1, 2, 4] rfl ?_
              exact n74 x4 r6 x3 hf
        · refine v_pick [0, 1, 2, 3, 4] rfl ?_
          exact n100 x3 x4 hf
  obtain ⟨g1, hf⟩ := q_gu_o hf
  refine v_run C0 tbX5 cokX5_mostBy (pc' := 20) (lv' := [(4, .int (0 : Int32)), (3, .int (q_int h (q_ref σ a0 39) (Int32.toNatClampNeg ((((256 : Int32) * x1) + (256 : Int32)) + x2)))), (0, .ref a0), (1, .int x1), (2, .int x2)]) (st' := []) (h' := h) 13 rfl ⟨⟨ta0, q_tn k0⟩, ⟨k0, g1⟩, trivial⟩ ?_
  obtain ⟨o2, eo2, hf⟩ := q_bd hf
  refine v_pick [2, 3, 4, 1, 0] rfl ?_
  refine n20 o2 ((q_int h (q_ref σ a0 39) (Int32.toNatClampNeg ((((256 : Int32) * x1) + (256 : Int32)) + x2))), (0 : Int32)) eo2 ?_
  refine v_run C0 tbX5 cokX5_mostBy (pc' := 107) (lv' := [(3, .int o2)]) (st' := [.int o2]) (h' := h) 1 rfl trivial ?_
  obtain rfl := Option.some.inj hf
  exact v_iret C0 cokX5_mostBy hr hlk rfl
-- BackByNoonOnMondayModel.layMost()I
noncomputable def fX5_layMost_2 (σ : q_St) (a0 : Nat) (x1 : Int32) (h : q_Hp) : Option ((Int32 × q_Hp) ⊕ q_Hp) := (if (256 : Int32) ≤ x1 then some (Sum.inr h) else q_gu ((vp_in (((256 : Int32) * (q_int h a0 6)) + x1) (q_len σ (q_ref σ a0 39)))) (some (Sum.inl ((x1 + (1 : Int32)), (q_si h (q_ref σ a0 39) (Int32.toNatClampNeg (((256 : Int32) * (q_int h a0 6)) + x1)) (0 : Int32))))))
noncomputable def fX5_layMost_44 (σ : q_St) (a0 : Nat) (x1 : Int32) (x2 : Int32) (h : q_Hp) : Option ((Int32 × q_Hp) ⊕ q_Hp) := (if ((1 : Int32) <<< ((q_int h a0 0) &&& 31)) ≤ x2 then some (Sum.inr h) else ((fX5_mostBy σ h a0 x1 x2).bind fun r5 => q_gu ((vp_in (((256 : Int32) * x1) + x2) (q_len σ (q_ref σ a0 39)))) (some (Sum.inl ((x2 + (1 : Int32)), (q_si h (q_ref σ a0 39) (Int32.toNatClampNeg (((256 : Int32) * x1) + x2)) r5))))))
noncomputable def fX5_layMost_38 (σ : q_St) (a0 : Nat) (x1 : Int32) (h : q_Hp) : Option ((Int32 × q_Hp) ⊕ q_Hp) := (if x1 < 0 then some (Sum.inr h) else (q_loop (fun s => fX5_layMost_44 σ a0 x1 s.1 s.2) q_N ((0 : Int32), h)).bind fun o4 => some (Sum.inl ((x1 + (-1 : Int32)), o4)))
noncomputable def fX5_layMost (σ : q_St) (h : q_Hp) (a0 : Nat) : Option (Int32 × q_Hp) := q_gu ((q_tag σ (q_ref σ a0 39) = 7)) ((q_loop (fun s => fX5_layMost_2 σ a0 s.1 s.2) q_N ((0 : Int32), h)).bind fun o1 => (q_loop (fun s => fX5_layMost_38 σ a0 s.1 s.2) q_N (((q_int o1 a0 6) - (1 : Int32)), o1)).bind fun o2 => q_gu ((vp_in (0 : Int32) (q_len σ (q_ref σ a0 39)))) (some ((q_int o2 (q_ref σ a0 39) (Int32.toNatClampNeg (0 : Int32))), o2)))
def cdX5_layMost : q_Cd := [(0, .iconst 0), (1, .istore_n 1), (2, .iload_n 1), (3, .sipush 256), (6, .if_icmp .ge 25), (9, .aload_n 0), (10, .getfield 80), (13, .sipush 256), (16, .aload_n 0), (17, .getfield 100), (20, .imul), (21, .iload_n 1), (22, .iadd), (23, .iconst 0), (24, .iastore), (25, .iinc 1 1), (28, .goto (-26)), (31, .aload_n 0), (32, .getfield 100), (35, .iconst 1), (36, .isub), (37, .istore_n 1), (38, .iload_n 1), (39, .ifCond .lt 45), (42, .iconst 0), (43, .istore_n 2), (44, .iload_n 2), (45, .iconst 1), (46, .aload_n 0), (47, .getfield 93), (50, .ishl), (51, .if_icmp .ge 27), (54, .aload_n 0), (55, .getfield 80), (58, .sipush 256), (61, .iload_n 1), (62, .imul), (63, .iload_n 2), (64, .iadd), (65, .aload_n 0), (66, .iload_n 1), (67, .iload_n 2), (68, .invokevirtual 261), (71, .iastore), (72, .iinc 2 1), (75, .goto (-31)), (78, .iinc 1 (-1)), (81, .goto (-43)), (84, .aload_n 0), (85, .getfield 80), (88, .iconst 0), (89, .iaload), (90, .ireturn)]
set_option maxRecDepth 100000 in
theorem cokX5_layMost : q_cok cX5_layMost cdX5_layMost := by unfold q_cok; decide +kernel
set_option maxRecDepth 100000 in
set_option maxHeartbeats 4000000 in
theorem ctX5_layMost {l : Launch} {D : va_G} {cy : Nat → Nat} {b0 : Nat} {σ : q_St} {h : q_Hp} (a0 : Nat) {r : Int32} {h' : q_Hp} (ta0 : q_tag σ a0 = 6) (hf : fX5_layMost σ h a0 = some (r, h')) : q_M l yX5_layMost cX5_layMost 3 (some .int) 4 90 0 0 D cy b0 σ h [.ref a0] (some (.int r)) σ h' := by
  unfold fX5_layMost at hf
  obtain ⟨k0, hf⟩ := q_gu_o hf
  refine q_enter (by decide) (Nat.le_of_ble_eq_true rfl) ?_
  intro p e s m args below meth c C0 hr hlk hnm
  replace C0 : VC p { frames := 4, cells := 0, slots := 0, locals := 90 } s m args meth c D cy b0 3 0 0 RX5 cX5_layMost := C0
  have n2 : ∀ (o : q_Hp) (s1 : (Int32 × q_Hp)), q_loop (fun s => fX5_layMost_2 σ a0 s.1 s.2) q_N s1 = some o → V p l e { frames := 4, cells := 0, slots := 0, locals := 90 } s m args below meth c (MQ below (q_Qc D cy b0 (some (.int r)) σ h') args s 0 0 (fun q => b0 ≤ q)) D cy b0 3 0 0 0 0 σ o 31 [(0, .ref a0)] [] → V p l e { frames := 4, cells := 0, slots := 0, locals := 90 } s m args below meth c (MQ below (q_Qc D cy b0 (some (.int r)) σ h') args s 0 0 (fun q => b0 ≤ q)) D cy b0 3 0 0 0 0 σ s1.2 2 [(0, .ref a0), (1, .int s1.1)] [] := by
    intro o s1 ho kx1
    refine q_loop_V (P := fun s0 => V p l e { frames := 4, cells := 0, slots := 0, locals := 90 } s m args below meth c (MQ below (q_Qc D cy b0 (some (.int r)) σ h') args s 0 0 (fun q => b0 ≤ q)) D cy b0 3 0 0 0 0 σ s0.2 2 [(0, .ref a0), (1, .int s0.1)] []) (o := o) ?_ q_N s1 ho
    intro s2 z1 hf kb1 kr1
    obtain ⟨x1, h⟩ := s2
    replace hf : fX5_layMost_2 σ a0 x1 h = some z1 := hf
    unfold fX5_layMost_2 at hf
    show V p l e { frames := 4, cells := 0, slots := 0, locals := 90 } s m args below meth c (MQ below (q_Qc D cy b0 (some (.int r)) σ h') args s 0 0 (fun q => b0 ≤ q)) D cy b0 3 0 0 0 0 σ h 2 [(0, .ref a0), (1, .int x1)] []
    refine v_run C0 tbX5 cokX5_layMost (pc' := 6) (lv' := [(0, .ref a0), (1, .int x1)]) (st' := [.int (256 : Int32), .int x1]) (h' := h) 2 rfl trivial ?_
    refine v_icmp_ge C0 cokX5_layMost rfl 31 (by decide) hf (fun _ hf => ?_) (fun _ hf => ?_)
    · obtain rfl := Option.some.inj hf
      refine v_pick [0] rfl ?_
      have hx := kr1 _ rfl
      subst hx
      exact kx1
    · obtain ⟨g7, hf⟩ := q_gu_o hf
      refine v_run C0 tbX5 cokX5_layMost (pc' := 2) (lv' := [(1, .int (x1 + (1 : Int32))), (0, .ref a0)]) (st' := []) (h' := (q_si h (q_ref σ a0 39) (Int32.toNatClampNeg (((256 : Int32) * (q_int h a0 6)) + x1)) (0 : Int32))) 12 rfl ⟨⟨ta0, q_tn k0⟩, ta0, ⟨k0, g7⟩, trivial⟩ ?_
      obtain rfl := Option.some.inj hf
      refine v_pick [1, 0] rfl ?_
      exact kb1 _ rfl
  have n38 : ∀ (o : q_Hp) (s1 : (Int32 × q_Hp)), q_loop (fun s => fX5_layMost_38 σ a0 s.1 s.2) q_N s1 = some o → V p l e { frames := 4, cells := 0, slots := 0, locals := 90 } s m args below meth c (MQ below (q_Qc D cy b0 (some (.int r)) σ h') args s 0 0 (fun q => b0 ≤ q)) D cy b0 3 0 0 0 0 σ o 84 [(0, .ref a0)] [] → V p l e { frames := 4, cells := 0, slots := 0, locals := 90 } s m args below meth c (MQ below (q_Qc D cy b0 (some (.int r)) σ h') args s 0 0 (fun q => b0 ≤ q)) D cy b0 3 0 0 0 0 σ s1.2 38 [(0, .ref a0), (1, .int s1.1)] [] := by
    intro o s1 ho kx1
    refine q_loop_V (P := fun s0 => V p l e { frames := 4, cells := 0, slots := 0, locals := 90 } s m args below meth c (MQ below (q_Qc D cy b0 (some (.int r)) σ h') args s 0 0 (fun q => b0 ≤ q)) D cy b0 3 0 0 0 0 σ s0.2 38 [(0, .ref a0), (1, .int s0.1)] []) (o := o) ?_ q_N s1 ho
    intro s2 z1 hf kb1 kr1
    obtain ⟨x1, h⟩ := s2
    replace hf : fX5_layMost_38 σ a0 x1 h = some z1 := hf
    unfold fX5_layMost_38 at hf
    show V p l e { frames := 4, cells := 0, slots := 0, locals := 90 } s m args below meth c (MQ below (q_Qc D cy b0 (some (.int r)) σ h') args s 0 0 (fun q => b0 ≤ q)) D cy b0 3 0 0 0 0 σ h 38 [(0, .ref a0), (1, .int x1)] []
    have n44 : ∀ (x1 : Int32) (o : q_Hp) (s1 : (Int32 × q_Hp)), q_loop (fun s => fX5_layMost_44 σ a0 x1 s.1 s.2) q_N s1 = some o → V p l e { frames := 4, cells := 0, slots := 0, locals := 90 } s m args below meth c (MQ below (q_Qc D cy b0 (some (.int r)) σ h') args s 0 0 (fun q => b0 ≤ q)) D cy b0 3 0 0 0 0 σ o 78 [(0, .ref a0), (1, .int x1)] [] → V p l e { frames := 4, cells := 0, slots := 0, locals := 90 } s m args below meth c (MQ below (q_Qc D cy b0 (some (.int r)) σ h') args s 0 0 (fun q => b0 ≤ q)) D cy b0 3 0 0 0 0 σ s1.2 44 [(0, .ref a0), (1, .int x1), (2, .int s1.1)] [] := by
      intro x1 o s1 ho kx2
      refine q_loop_V (P := fun s0 => V p l e { frames := 4, cells := 0, slots := 0, locals := 90 } s m args below meth c (MQ below (q_Qc D cy b0 (some (.int r)) σ h') args s 0 0 (fun q => b0 ≤ q)) D cy b0 3 0 0 0 0 σ s0.2 44 [(0, .ref a0), (1, .int x1), (2, .int s0.1)] []) (o := o) ?_ q_N s1 ho
      intro s2 z2 hf kb2 kr2
      obtain ⟨x2, h⟩ := s2
      replace hf : fX5_layMost_44 σ a0 x1 x2 h = some z2 := hf
      unfold fX5_layMost_44 at hf
      show V p l e { frames := 4, cells := 0, slots := 0, locals := 90 } s m args below meth c (MQ below (q_Qc D cy b0 (some (.int r)) σ h') args s 0 0 (fun q => b0 ≤ q)) D cy b0 3 0 0 0 0 σ h 44 [(0, .ref a0), (1, .int x1), (2, .int x2)] []
      refine v_run C0 tbX5 cokX5_layMost (pc' := 51) (lv' := [(0, .ref a0), (1, .int x1), (2, .int x2)]) (st' := [.int ((1 : Int32) <<< ((q_int h a0 0) &&& 31)), .int x2]) (h' := h) 5 rfl ⟨ta0, trivial⟩ ?_
      refine v_icmp_ge C0 cokX5_layMost rfl 78 (by decide) hf (fun _ hf => ?_) (fun _ hf => ?_)
      · obtain rfl := Option.some.inj hf
        refine v_pick [0, 1] rfl ?_
        have hx := kr2 _ rfl
        subst hx
        exact kx2
      · refine v_run C0 tbX5 cokX5_layMost (pc' := 68) (lv' := [(0, .ref a0), (1, .int x1), (2, .int x2)]) (st' := [.int x2, .int x1, .ref a0, .int (((256 : Int32) * x1) + x2), .ref (q_ref σ a0 39)]) (h' := h) 10 rfl ⟨⟨ta0, q_tn k0⟩, trivial⟩ ?_
        obtain ⟨r5, e5, hf⟩ := q_bd hf
        refine v_callV C0 cokX5_layMost rfl (rest := [.int (((256 : Int32) * x1) + x2), .ref (q_ref σ a0 39)]) (ctX5_mostBy a0 x1 x2 ta0 e5) calX5_mostBy lkX5_261 inX5_mostBy dnX5_mostBy (ci := 5) ⟨rfl, by decide⟩ ta0 rfl rfl ⟨by decide, by decide⟩ (Nat.le_of_ble_eq_true rfl) (Nat.le_refl _) (Nat.le_refl _) ?_
        obtain ⟨g6, hf⟩ := q_gu_o hf
        refine v_run C0 tbX5 cokX5_layMost (pc' := 44) (lv' := [(2, .int (x2 + (1 : Int32))), (0, .ref a0), (1, .int x1)]) (st' := []) (h' := (q_si h (q_ref σ a0 39) (Int32.toNatClampNeg (((256 : Int32) * x1) + x2)) r5)) 3 rfl ⟨⟨k0, g6⟩, trivial⟩ ?_
        obtain rfl := Option.some.inj hf
        refine v_pick [1, 2, 0] rfl ?_
        exact kb2 _ rfl
    refine v_run C0 tbX5 cokX5_layMost (pc' := 39) (lv' := [(0, .ref a0), (1, .int x1)]) (st' := [.int x1]) (h' := h) 1 rfl trivial ?_
    refine v_if_lt C0 cokX5_layMost rfl 84 (by decide) hf (fun _ hf => ?_) (fun _ hf => ?_)
    · obtain rfl := Option.some.inj hf
      refine v_pick [0] rfl ?_
      have hx := kr1 _ rfl
      subst hx
      exact kx1
    · refine v_run C0 tbX5 cokX5_layMost (pc' := 44) (lv' := [(2, .int (0 : Int32)), (0, .ref a0), (1, .int x1)]) (st' := []) (h' := h) 2 rfl trivial ?_
      obtain ⟨o4, eo4, hf⟩ := q_bd hf
      refine v_pick [1, 2, 0] rfl ?_
      refine n44 x1 o4 ((0 : Int32), h) eo4 ?_
      refine v_run C0 tbX5 cokX5_layMost (pc' := 38) (lv' := [(1, .int (x1 + (-1 : Int32))), (0, .ref a0)]) (st' := []) (h' := o4) 2 rfl trivial ?_
      obtain rfl := Option.some.inj hf
      refine v_pick [1, 0] rfl ?_
      exact kb1 _ rfl
  refine v_run C0 tbX5 cokX5_layMost (pc' := 2) (lv' := [(1, .int (0 : Int32)), (0, .ref a0)]) (st' := []) (h' := h) 2 rfl trivial ?_
  obtain ⟨o1, eo1, hf⟩ := q_bd hf
  refine v_pick [1, 0] rfl ?_
  refine n2 o1 ((0 : Int32), h) eo1 ?_
  refine v_run C0 tbX5 cokX5_layMost (pc' := 38) (lv' := [(1, .int ((q_int o1 a0 6) - (1 : Int32))), (0, .ref a0)]) (st' := []) (h' := o1) 5 rfl ⟨ta0, trivial⟩ ?_
  obtain ⟨o2, eo2, hf⟩ := q_bd hf
  refine v_pick [1, 0] rfl ?_
  refine n38 o2 (((q_int o1 a0 6) - (1 : Int32)), o1) eo2 ?_
  obtain ⟨g3, hf⟩ := q_gu_o hf
  refine v_run C0 tbX5 cokX5_layMost (pc' := 90) (lv' := [(0, .ref a0)]) (st' := [.int (q_int o2 (q_ref σ a0 39) (Int32.toNatClampNeg (0 : Int32)))]) (h' := o2) 4 rfl ⟨⟨ta0, q_tn k0⟩, ⟨k0, g3⟩, trivial⟩ ?_
  obtain ⟨rfl, rfl⟩ := Prod.mk.inj (Option.some.inj hf)
  exact v_iret C0 cokX5_layMost hr hlk rfl
-- BackByNoonOnMondayModel.servedNow()I
noncomputable def fX5_servedNow (σ : q_St) (h : q_Hp) (a0 : Nat) : Option (Int32 × q_Hp) := (q_b2 (fX5_layMost σ (q_si h a0 35 (0 : Int32)) a0) fun r1 h1 => some (r1, h1))
def cdX5_servedNow : q_Cd := [(0, .aload_n 0), (1, .iconst 0), (2, .putfield 255), (5, .aload_n 0), (6, .invokevirtual 264), (9, .ireturn)]
set_option maxRecDepth 100000 in
theorem cokX5_servedNow : q_cok cX5_servedNow cdX5_servedNow := by unfold q_cok; decide +kernel
set_option maxRecDepth 100000 in
set_option maxHeartbeats 4000000 in
theorem ctX5_servedNow {l : Launch} {D : va_G} {cy : Nat → Nat} {b0 : Nat} {σ : q_St} {h : q_Hp} (a0 : Nat) {r : Int32} {h' : q_Hp} (ta0 : q_tag σ a0 = 6) (hf : fX5_servedNow σ h a0 = some (r, h')) : q_M l yX5_servedNow cX5_servedNow 1 (some .int) 5 112 0 0 D cy b0 σ h [.ref a0] (some (.int r)) σ h' := by
  unfold fX5_servedNow at hf
  refine q_enter (by decide) (Nat.le_of_ble_eq_true rfl) ?_
  intro p e s m args below meth c C0 hr hlk hnm
  replace C0 : VC p { frames := 5, cells := 0, slots := 0, locals := 112 } s m args meth c D cy b0 1 0 0 RX5 cX5_servedNow := C0
  refine v_run C0 tbX5 cokX5_servedNow (pc' := 6) (lv' := [(0, .ref a0)]) (st' := [.ref a0]) (h' := (q_si h a0 35 (0 : Int32))) 4 rfl ⟨⟨ta0, (Or.inl rfl)⟩, trivial⟩ ?_
  obtain ⟨r1, h1, e1, hf⟩ := q_bd2 hf
  refine v_callV C0 cokX5_servedNow rfl (rest := []) (ctX5_layMost a0 ta0 e1) calX5_layMost lkX5_264 inX5_layMost dnX5_layMost (ci := 5) ⟨rfl, by decide⟩ ta0 rfl rfl ⟨by decide, by decide⟩ (Nat.le_of_ble_eq_true rfl) (Nat.le_refl _) (Nat.le_refl _) ?_
  obtain ⟨rfl, rfl⟩ := Prod.mk.inj (Option.some.inj hf)
  exact v_iret C0 cokX5_servedNow hr hlk rfl
-- BackByNoonOnMondayModel.earnedNow()I
noncomputable def fX5_earnedNow (σ : q_St) (h : q_Hp) (a0 : Nat) : Option (Int32 × q_Hp) := (q_b2 (fX5_layMost σ (q_si h a0 35 (1 : Int32)) a0) fun r1 h1 => some (r1, h1))
def cdX5_earnedNow : q_Cd := [(0, .aload_n 0), (1, .iconst 1), (2, .putfield 255), (5, .aload_n 0), (6, .invokevirtual 264), (9, .ireturn)]
set_option maxRecDepth 100000 in
theorem cokX5_earnedNow : q_cok cX5_earnedNow cdX5_earnedNow := by unfold q_cok; decide +kernel
set_option maxRecDepth 100000 in
set_option maxHeartbeats 4000000 in
theorem ctX5_earnedNow {l : Launch} {D : va_G} {cy : Nat → Nat} {b0 : Nat} {σ : q_St} {h : q_Hp} (a0 : Nat) {r : Int32} {h' : q_Hp} (ta0 : q_tag σ a0 = 6) (hf : fX5_earnedNow σ h a0 = some (r, h')) : q_M l yX5_earnedNow cX5_earnedNow 1 (some .int) 5 112 0 0 D cy b0 σ h [.ref a0] (some (.int r)) σ h' := by
  unfold fX5_earnedNow at hf
  refine q_enter (by decide) (Nat.le_of_ble_eq_true rfl) ?_
  intro p e s m args below meth c C0 hr hlk hnm
  replace C0 : VC p { frames := 5, cells := 0, slots := 0, locals := 112 } s m args meth c D cy b0 1 0 0 RX5 cX5_earnedNow := C0
  refine v_run C0 tbX5 cokX5_earnedNow (pc' := 6) (lv' := [(0, .ref a0)]) (st' := [.ref a0]) (h' := (q_si h a0 35 (1 : Int32))) 4 rfl ⟨⟨ta0, (Or.inr rfl)⟩, trivial⟩ ?_
  obtain ⟨r1, h1, e1, hf⟩ := q_bd2 hf
  refine v_callV C0 cokX5_earnedNow rfl (rest := []) (ctX5_layMost a0 ta0 e1) calX5_layMost lkX5_264 inX5_layMost dnX5_layMost (ci := 5) ⟨rfl, by decide⟩ ta0 rfl rfl ⟨by decide, by decide⟩ (Nat.le_of_ble_eq_true rfl) (Nat.le_refl _) (Nat.le_refl _) ?_
  obtain ⟨rfl, rfl⟩ := Prod.mk.inj (Option.some.inj hf)
  exact v_iret C0 cokX5_earnedNow hr hlk rfl
-- BackByNoonOnMondayModel.layFirst()I
noncomputable def fX5_layFirst_133 (σ : q_St) (h : q_Hp) (a0 : Nat) (x1 : Int32) (x2 : Int32) (x3 : Int32) (x4 : Int32) (s0 : Int32) (s1 : Int32) (s2 : Nat) : Option ((Int32 × q_Hp) ⊕ q_Hp) := q_gu ((q_tag σ s2 = 7) ∧ (vp_in s1 (q_len σ s2))) (some (Sum.inl ((x4 + (-1 : Int32)), (q_si h s2 (Int32.toNatClampNeg s1) s0))))
noncomputable def fX5_layFirst_127 (σ : q_St) (h : q_Hp) (a0 : Nat) (x1 : Int32) (x2 : Int32) (x3 : Int32) (x4 : Int32) (s0 : Int32) (s1 : Nat) : Option ((Int32 × q_Hp) ⊕ q_Hp) := q_gu ((vp_in x2 (q_len σ (q_ref σ a0 40)))) (fX5_layFirst_133 σ h a0 x1 x2 x3 x4 (q_int h (q_ref σ a0 40) (Int32.toNatClampNeg x2)) s0 s1)
noncomputable def fX5_layFirst_83 (σ : q_St) (h : q_Hp) (a0 : Nat) (x1 : Int32) (x2 : Int32) (x3 : Int32) (x4 : Int32) (s0 : Int32) : Option ((Int32 × q_Hp) ⊕ q_Hp) := (if s0 = 0 then fX5_layFirst_127 σ h a0 x1 x2 x3 x4 x2 (q_ref σ a0 40) else q_gu ((vp_in ((((256 : Int32) * x2) + (256 : Int32)) + (x1 ||| ((1 : Int32) <<< (x4 &&& 31)))) (q_len σ (q_ref σ a0 39)))) ((if ((1 : Int32) + (q_int h (q_ref σ a0 39) (Int32.toNatClampNeg ((((256 : Int32) * x2) + (256 : Int32)) + (x1 ||| ((1 : Int32) <<< (x4 &&& 31))))))) = x3 then fX5_layFirst_133 σ h a0 x1 x2 x3 x4 x4 x2 (q_ref σ a0 40) else fX5_layFirst_127 σ h a0 x1 x2 x3 x4 x2 (q_ref σ a0 40))))
noncomputable def fX5_layFirst_82 (σ : q_St) (h : q_Hp) (a0 : Nat) (x1 : Int32) (x2 : Int32) (x3 : Int32) (x4 : Int32) : Option ((Int32 × q_Hp) ⊕ q_Hp) := fX5_layFirst_83 σ h a0 x1 x2 x3 x4 (0 : Int32)
noncomputable def fX5_layFirst_46 (σ : q_St) (a0 : Nat) (x1 : Int32) (x2 : Int32) (x3 : Int32) (x4 : Int32) (h : q_Hp) : Option ((Int32 × q_Hp) ⊕ q_Hp) := (if x4 < 0 then some (Sum.inr h) else ((fX5_isOpen σ h a0 x2).bind fun r6 => (if r6 = 0 then some (Sum.inr h) else ((fX5_hasBit σ h x1 x4).bind fun r7 => (if r7 = 0 then ((fX5_mayHave σ h a0 x4 x2).bind fun r8 => (if r8 = 0 then fX5_layFirst_82 σ h a0 x1 x2 x3 x4 else fX5_layFirst_83 σ h a0 x1 x2 x3 x4 (1 : Int32))) else fX5_layFirst_82 σ h a0 x1 x2 x3 x4)))))
noncomputable def fX5_layFirst_164 (σ : q_St) (h : q_Hp) (a0 : Nat) (x2 : Int32) (s0 : Int32) (s1 : Int32) : Option ((Int32 × Int32 × q_Hp) ⊕ (Int32 × q_Hp)) := some (Sum.inl ((s1 ||| s0), (x2 + (1 : Int32)), h))
noncomputable def fX5_layFirst_140 (σ : q_St) (h : q_Hp) (a0 : Nat) (x1 : Int32) (x2 : Int32) : Option ((Int32 × Int32 × q_Hp) ⊕ (Int32 × q_Hp)) := q_gu ((vp_in x2 (q_len σ (q_ref σ a0 40)))) ((if (q_int h (q_ref σ a0 40) (Int32.toNatClampNeg x2)) = (9 : Int32) then fX5_layFirst_164 σ h a0 x2 (0 : Int32) x1 else fX5_layFirst_164 σ h a0 x2 ((1 : Int32) <<< ((q_int h (q_ref σ a0 40) (Int32.toNatClampNeg x2)) &&& 31)) x1))
noncomputable def fX5_layFirst_9 (σ : q_St) (a0 : Nat) (x1 : Int32) (x2 : Int32) (h : q_Hp) : Option ((Int32 × Int32 × q_Hp) ⊕ (Int32 × q_Hp)) := (if (q_int h a0 6) ≤ x2 then some (Sum.inr (x1, h)) else q_gu ((vp_in (((256 : Int32) * x2) + x1) (q_len σ (q_ref σ a0 39))) ∧ (vp_in x2 (q_len σ (q_ref σ a0 40)))) ((q_loop (fun s => fX5_layFirst_46 σ a0 x1 x2 (q_int h (q_ref σ a0 39) (Int32.toNatClampNeg (((256 : Int32) * x2) + x1))) s.1 s.2) q_N (((q_int (q_si h (q_ref σ a0 40) (Int32.toNatClampNeg x2) (9 : Int32)) a0 0) - (1 : Int32)), (q_si h (q_ref σ a0 40) (Int32.toNatClampNeg x2) (9 : Int32)))).bind fun o5 => fX5_layFirst_140 σ o5 a0 x1 x2))
noncomputable def fX5_layFirst (σ : q_St) (h : q_Hp) (a0 : Nat) : Option (Int32 × q_Hp) := q_gu ((q_tag σ (q_ref σ a0 39) = 7) ∧ (q_tag σ (q_ref σ a0 40) = 7)) ((q_b2 (fX5_servedNow σ h a0) fun r1 h1 => (q_loop (fun s => fX5_layFirst_9 σ a0 s.1 s.2.1 s.2.2) q_N ((0 : Int32), (0 : Int32), h1)).bind fun o2 => some (o2.1, o2.2)))
def cdX5_layFirst : q_Cd := [(0, .aload_n 0), (1, .invokevirtual 267), (4, .pop), (5, .iconst 0), (6, .istore_n 1), (7, .iconst 0), (8, .istore_n 2), (9, .iload_n 2), (10, .aload_n 0), (11, .getfield 100), (14, .if_icmp .ge 158), (17, .aload_n 0), (18, .getfield 80), (21, .sipush 256), (24, .iload_n 2), (25, .imul), (26, .iload_n 1), (27, .iadd), (28, .iaload), (29, .istore_n 3), (30, .aload_n 0), (31, .getfield 83), (34, .iload_n 2), (35, .bipush 9), (37, .iastore), (38, .aload_n 0), (39, .getfield 93), (42, .iconst 1), (43, .isub), (44, .istore 4), (46, .iload 4), (48, .ifCond .lt 92), (51, .aload_n 0), (52, .iload_n 2), (53, .invokevirtual 249), (56, .ifCond .eq 84), (59, .iload_n 1), (60, .iload 4), (62, .invokestatic 243), (65, .ifCond .ne 17), (68, .aload_n 0), (69, .iload 4), (71, .iload_n 2), (72, .invokevirtual 252), (75, .ifCond .eq 7), (78, .iconst 1), (79, .goto 4), (82, .iconst 0), (83, .istore 5), (85, .aload_n 0), (86, .getfield 83), (89, .iload_n 2), (90, .iload 5), (92, .ifCond .eq 35), (95, .iconst 1), (96, .aload_n 0), (97, .getfield 80), (100, .sipush 256), (103, .iload_n 2), (104, .imul), (105, .sipush 256), (108, .iadd), (109, .iload_n 1), (110, .iconst 1), (111, .iload 4), (113, .ishl), (114, .ior), (115, .iadd), (116, .iaload), (117, .iadd), (118, .iload_n 3), (119, .if_icmp .ne 8), (122, .iload 4), (124, .goto 9), (127, .aload_n 0), (128, .getfield 83), (131, .iload_n 2), (132, .iaload), (133, .iastore), (134, .iinc 4 (-1)), (137, .goto (-91)), (140, .iload_n 1), (141, .aload_n 0), (142, .getfield 83), (145, .iload_n 2), (146, .iaload), (147, .bipush 9), (149, .if_icmp .ne 7), (152, .iconst 0), (153, .goto 11), (156, .iconst 1), (157, .aload_n 0), (158, .getfield 83), (161, .iload_n 2), (162, .iaload), (163, .ishl), (164, .ior), (165, .istore_n 1), (166, .iinc 2 1), (169, .goto (-160)), (172, .iload_n 1), (173, .ireturn)]
set_option maxRecDepth 100000 in
theorem cokX5_layFirst : q_cok cX5_layFirst cdX5_layFirst := by unfold q_cok; decide +kernel
set_option maxRecDepth 100000 in
set_option maxHeartbeats 4000000 in
theorem ctX5_layFirst {l : Launch} {D : va_G} {cy : Nat → Nat} {b0 : Nat} {σ : q_St} {h : q_Hp} (a0 : Nat) {r : Int32} {h' : q_Hp} (ta0 : q_tag σ a0 = 6) (hf : fX5_layFirst σ h a0 = some (r, h')) : q_M l yX5_layFirst cX5_layFirst 6 (some .int) 6 132 0 0 D cy b0 σ h [.ref a0] (some (.int r)) σ h' := by
  unfold fX5_layFirst at hf
  obtain ⟨⟨k0, k1⟩, hf⟩ := q_gu_o hf
  refine q_enter (by decide) (Nat.le_of_ble_eq_true rfl) ?_
  intro p e s m args below meth c C0 hr hlk hnm
  replace C0 : VC p { frames := 6, cells := 0, slots := 0, locals := 132 } s m args meth c D cy b0 6 0 0 RX5 cX5_layFirst := C0
  have n9 : ∀ (o : (Int32 × q_Hp)) (s1 : (Int32 × Int32 × q_Hp)), q_loop (fun s => fX5_layFirst_9 σ a0 s.1 s.2.1 s.2.2) q_N s1 = some o → V p l e { frames := 6, cells := 0, slots := 0, locals := 132 } s m args below meth c (MQ below (q_Qc D cy b0 (some (.int r)) σ h') args s 0 0 (fun q => b0 ≤ q)) D cy b0 6 0 0 0 0 σ o.2 172 [(1, .int o.1)] [] → V p l e { frames := 6, cells := 0, slots := 0, locals := 132 } s m args below meth c (MQ below (q_Qc D cy b0 (some (.int r)) σ h') args s 0 0 (fun q => b0 ≤ q)) D cy b0 6 0 0 0 0 σ s1.2.2 9 [(0, .ref a0), (1, .int s1.1), (2, .int s1.2.1)] [] := by
    intro o s1 ho kx1
    refine q_loop_V (P := fun s0 => V p l e { frames := 6, cells := 0, slots := 0, locals := 132 } s m args below meth c (MQ below (q_Qc D cy b0 (some (.int r)) σ h') args s 0 0 (fun q => b0 ≤ q)) D cy b0 6 0 0 0 0 σ s0.2.2 9 [(0, .ref a0), (1, .int s0.1), (2, .int s0.2.1)] []) (o := o) ?_ q_N s1 ho
    intro s2 z1 hf kb1 kr1
    obtain ⟨x1, x2, h⟩ := s2
    replace hf : fX5_layFirst_9 σ a0 x1 x2 h = some z1 := hf
    unfold fX5_layFirst_9 at hf
    show V p l e { frames := 6, cells := 0, slots := 0, locals := 132 } s m args below meth c (MQ below (q_Qc D cy b0 (some (.int r)) σ h') args s 0 0 (fun q => b0 ≤ q)) D cy b0 6 0 0 0 0 σ h 9 [(0, .ref a0), (1, .int x1), (2, .int x2)] []
    have n46 : ∀ (x1 : Int32) (x2 : Int32) (x3 : Int32) (o : q_Hp) (s1 : (Int32 × q_Hp)), q_loop (fun s => fX5_layFirst_46 σ a0 x1 x2 x3 s.1 s.2) q_N s1 = some o → V p l e { frames := 6, cells := 0, slots := 0, locals := 132 } s m args below meth c (MQ below (q_Qc D cy b0 (some (.int r)) σ h') args s 0 0 (fun q => b0 ≤ q)) D cy b0 6 0 0 0 0 σ o 140 [(0, .ref a0), (1, .int x1), (2, .int x2)] [] → V p l e { frames := 6, cells := 0, slots := 0, locals := 132 } s m args below meth c (MQ below (q_Qc D cy b0 (some (.int r)) σ h') args s 0 0 (fun q => b0 ≤ q)) D cy b0 6 0 0 0 0 σ s1.2 46 [(0, .ref a0), (1, .int x1), (2, .int x2), (3, .int x3), (4, .int s1.1)] [] := by
      intro x1 x2 x3 o s1 ho kx2
      refine q_loop_V (P := fun s0 => V p l e { frames := 6, cells := 0, slots := 0, locals := 132 } s m args below meth c (MQ below (q_Qc D cy b0 (some (.int r)) σ h') args s 0 0 (fun q => b0 ≤ q)) D cy b0 6 0 0 0 0 σ s0.2 46 [(0, .ref a0), (1, .int x1), (2, .int x2), (3, .int x3), (4, .int s0.1)] []) (o := o) ?_ q_N s1 ho
      intro s2 z2 hf kb2 kr2
      obtain ⟨x4, h⟩ := s2
      replace hf : fX5_layFirst_46 σ a0 x1 x2 x3 x4 h = some z2 := hf
      unfold fX5_layFirst_46 at hf
      show V p l e { frames := 6, cells := 0, slots := 0, locals := 132 } s m args below meth c (MQ below (q_Qc D cy b0 (some (.int r)) σ h') args s 0 0 (fun q => b0 ≤ q)) D cy b0 6 0 0 0 0 σ h 46 [(0, .ref a0), (1, .int x1), (2, .int x2), (3, .int x3), (4, .int x4)] []
      have n133 : ∀ (h : q_Hp) (x4 : Int32) (s0 : Int32) (s1 : Int32) (s2 : Nat), fX5_layFirst_133 σ h a0 x1 x2 x3 x4 s0 s1 s2 = some z2 → V p l e { frames := 6, cells := 0, slots := 0, locals := 132 } s m args below meth c (MQ below (q_Qc D cy b0 (some (.int r)) σ h') args s 0 0 (fun q => b0 ≤ q)) D cy b0 6 0 0 0 0 σ h 133 [(0, .ref a0), (1, .int x1), (2, .int x2), (3, .int x3), (4, .int x4)] [.int s0, .int s1, .ref s2] := by
        intro h x4 s0 s1 s2 hf
        unfold fX5_layFirst_133 at hf
        obtain ⟨⟨g11, g12⟩, hf⟩ := q_gu_o hf
        refine v_run C0 tbX5 cokX5_layFirst (pc' := 46) (lv' := [(4, .int (x4 + (-1 : Int32))), (0, .ref a0), (1, .int x1), (2, .int x2), (3, .int x3)]) (st' := []) (h' := (q_si h s2 (Int32.toNatClampNeg s1) s0)) 3 rfl ⟨⟨g11, g12⟩, trivial⟩ ?_
        obtain rfl := Option.some.inj hf
        refine v_pick [1, 2, 3, 4, 0] rfl ?_
        exact kb2 _ rfl
      have n127 : ∀ (h : q_Hp) (x4 : Int32) (s0 : Int32) (s1 : Nat), fX5_layFirst_127 σ h a0 x1 x2 x3 x4 s0 s1 = some z2 → V p l e { frames := 6, cells := 0, slots := 0, locals := 132 } s m args below meth c (MQ below (q_Qc D cy b0 (some (.int r)) σ h') args s 0 0 (fun q => b0 ≤ q)) D cy b0 6 0 0 0 0 σ h 127 [(0, .ref a0), (1, .int x1), (2, .int x2), (3, .int x3), (4, .int x4)] [.int s0, .ref s1] := by
        intro h x4 s0 s1 hf
        unfold fX5_layFirst_127 at hf
        obtain ⟨g10, hf⟩ := q_gu_o hf
        refine v_run C0 tbX5 cokX5_layFirst (pc' := 133) (lv' := [(0, .ref a0), (1, .int x1), (2, .int x2), (3, .int x3), (4, .int x4)]) (st' := [.int (q_int h (q_ref σ a0 40) (Int32.toNatClampNeg x2)), .int s0, .ref s1]) (h' := h) 4 rfl ⟨⟨ta0, q_tn k1⟩, ⟨k1, g10⟩, trivial⟩ ?_
        refine v_pick [0, 1, 2, 3, 4] rfl ?_
        exact n133 h x4 (q_int h (q_ref σ a0 40) (Int32.toNatClampNeg x2)) s0 s1 hf
      have n83 : ∀ (h : q_Hp) (x4 : Int32) (s0 : Int32), fX5_layFirst_83 σ h a0 x1 x2 x3 x4 s0 = some z2 → V p l e { frames := 6, cells := 0, slots := 0, locals := 132 } s m args below meth c (MQ below (q_Qc D cy b0 (some (.int r)) σ h') args s 0 0 (fun q => b0 ≤ q)) D cy b0 6 0 0 0 0 σ h 83 [(0, .ref a0), (1, .int x1), (2, .int x2), (3, .int x3), (4, .int x4)] [.int s0] := by
        intro h x4 s0 hf
        unfold fX5_layFirst_83 at hf
        refine v_run C0 tbX5 cokX5_layFirst (pc' := 92) (lv' := [(5, .int s0), (0, .ref a0), (1, .int x1), (2, .int x2), (3, .int x3), (4, .int x4)]) (st' := [.int s0, .int x2, .ref (q_ref σ a0 40)]) (h' := h) 5 rfl ⟨⟨ta0, q_tn k1⟩, trivial⟩ ?_
        refine v_if_eq C0 cokX5_layFirst rfl 127 (by decide) hf (fun _ hf => ?_) (fun _ hf => ?_)
        · refine v_pick [1, 2, 3, 4, 5] rfl ?_
          exact n127 h x4 x2 (q_ref σ a0 40) hf
        · obtain ⟨g9, hf⟩ := q_gu_o hf
          refine v_run C0 tbX5 cokX5_layFirst (pc' := 119) (lv' := [(5, .int s0), (0, .ref a0), (1, .int x1), (2, .int x2), (3, .int x3), (4, .int x4)]) (st' := [.int x3, .int ((1 : Int32) + (q_int h (q_ref σ a0 39) (Int32.toNatClampNeg ((((256 : Int32) * x2) + (256 : Int32)) + (x1 ||| ((1 : Int32) <<< (x4 &&& 31))))))), .int x2, .ref (q_ref σ a0 40)]) (h' := h) 17 rfl ⟨⟨ta0, q_tn k0⟩, ⟨k0, g9⟩, trivial⟩ ?_
          refine v_icmp_ne C0 cokX5_layFirst rfl 127 (by decide) hf (fun _ hf => ?_) (fun _ hf => ?_)
          · refine v_run C0 tbX5 cokX5_layFirst (pc' := 133) (lv' := [(5, .int s0), (0, .ref a0), (1, .int x1), (2, .int x2), (3, .int x3), (4, .int x4)]) (st' := [.int x4, .int x2, .ref (q_ref σ a0 40)]) (h' := h) 2 rfl trivial ?_
            refine v_pick [1, 2, 3, 4, 5] rfl ?_
            exact n133 h x4 x4 x2 (q_ref σ a0 40) hf
          · refine v_pick [1, 2, 3, 4, 5] rfl ?_
            exact n127 h x4 x2 (q_ref σ a0 40) hf
      have n82 : ∀ (h : q_Hp) (x4 : Int32), fX5_layFirst_82 σ h a0 x1 x2 x3 x4 = some z2 → V p l e { frames := 6, cells := 0, slots := 0, locals := 132 } s m args below meth c (MQ below (q_Qc D cy b0 (some (.int r)) σ h') args s 0 0 (fun q => b0 ≤ q)) D cy b0 6 0 0 0 0 σ h 82 [(0, .ref a0), (1, .int x1), (2, .int x2), (3, .int x3), (4, .int x4)] [] := by
        intro h x4 hf
        unfold fX5_layFirst_82 at hf
        refine v_run C0 tbX5 cokX5_layFirst (pc' := 83) (lv' := [(0, .ref a0), (1, .int x1), (2, .int x2), (3, .int x3), (4, .int x4)]) (st' := [.int (0 : Int32)]) (h' := h) 1 rfl trivial ?_
        refine v_pick [0, 1, 2, 3, 4] rfl ?_
        exact n83 h x4 (0 : Int32) hf
      refine v_run C0 tbX5 cokX5_layFirst (pc' := 48) (lv' := [(0, .ref a0), (1, .int x1), (2, .int x2), (3, .int x3), (4, .int x4)]) (st' := [.int x4]) (h' := h) 1 rfl trivial ?_
      refine v_if_lt C0 cokX5_layFirst rfl 140 (by decide) hf (fun _ hf => ?_) (fun _ hf => ?_)
      · obtain rfl := Option.some.inj hf
        refine v_pick [0, 1, 2] rfl ?_
        have hx := kr2 _ rfl
        subst hx
        exact kx2
      · refine v_run C0 tbX5 cokX5_layFirst (pc' := 53) (lv' := [(0, .ref a0), (1, .int x1), (2, .int x2), (3, .int x3), (4, .int x4)]) (st' := [.int x2, .ref a0]) (h' := h) 2 rfl trivial ?_
        obtain ⟨r6, e6, hf⟩ := q_bd hf
        refine v_callV C0 cokX5_layFirst rfl (rest := []) (ctX5_isOpen a0 x2 ta0 e6) calX5_isOpen lkX5_249 inX5_isOpen dnX5_isOpen (ci := 5) ⟨rfl, by decide⟩ ta0 rfl rfl ⟨by decide, by decide⟩ (Nat.le_of_ble_eq_true rfl) (Nat.le_refl _) (Nat.le_refl _) ?_
        refine v_if_eq C0 cokX5_layFirst rfl 140 (by decide) hf (fun _ hf => ?_) (fun _ hf => ?_)
        · obtain rfl := Option.some.inj hf
          refine v_pick [0, 1, 2] rfl ?_
          have hx := kr2 _ rfl
          subst hx
          exact kx2
        · refine v_run C0 tbX5 cokX5_layFirst (pc' := 62) (lv' := [(0, .ref a0), (1, .int x1), (2, .int x2), (3, .int x3), (4, .int x4)]) (st' := [.int x4, .int x1]) (h' := h) 2 rfl trivial ?_
          obtain ⟨r7, e7, hf⟩ := q_bd hf
          refine v_callS C0 cokX5_layFirst rfl (rest := []) (ctX5_hasBit x1 x4 e7) calX5_hasBit lkX5_243 inX5_hasBit dnX5_hasBit rfl rfl ⟨by decide, by decide⟩ (Nat.le_of_ble_eq_true rfl) (Nat.le_refl _) (Nat.le_refl _) ?_
          refine v_if_ne C0 cokX5_layFirst rfl 82 (by decide) hf (fun _ hf => ?_) (fun _ hf => ?_)
          · refine v_run C0 tbX5 cokX5_layFirst (pc' := 72) (lv' := [(0, .ref a0), (1, .int x1), (2, .int x2), (3, .int x3), (4, .int x4)]) (st' := [.int x2, .int x4, .ref a0]) (h' := h) 3 rfl trivial ?_
            obtain ⟨r8, e8, hf⟩ := q_bd hf
            refine v_callV C0 cokX5_layFirst rfl (rest := []) (ctX5_mayHave a0 x4 x2 ta0 e8) calX5_mayHave lkX5_252 inX5_mayHave dnX5_mayHave (ci := 5) ⟨rfl, by decide⟩ ta0 rfl rfl ⟨by decide, by decide⟩ (Nat.le_of_ble_eq_true rfl) (Nat.le_refl _) (Nat.le_refl _) ?_
            refine v_if_eq C0 cokX5_layFirst rfl 82 (by decide) hf (fun _ hf => ?_) (fun _ hf => ?_)
            · refine v_pick [0, 1, 2, 3, 4] rfl ?_
              exact n82 h x4 hf
            · refine v_run C0 tbX5 cokX5_layFirst (pc' := 83) (lv' := [(0, .ref a0), (1, .int x1), (2, .int x2), (3, .int x3), (4, .int x4)]) (st' := [.int (1 : Int32)]) (h' := h) 2 rfl trivial ?_
              refine v_pick [0, 1, 2, 3, 4] rfl ?_
              exact n83 h x4 (1 : Int32) hf
          · refine v_pick [0, 1, 2, 3, 4] rfl ?_
            exact n82 h x4 hf
    have n164 : ∀ (h : q_Hp) (x2 : Int32) (s0 : Int32) (s1 : Int32), fX5_layFirst_164 σ h a0 x2 s0 s1 = some z1 → V p l e { frames := 6, cells := 0, slots := 0, locals := 132 } s m args below meth c (MQ below (q_Qc D cy b0 (some (.int r)) σ h') args s 0 0 (fun q => b0 ≤ q)) D cy b0 6 0 0 0 0 σ h 164 [(0, .ref a0), (2, .int x2)] [.int s0, .int s1] := by
      intro h x2 s0 s1 hf
      unfold fX5_layFirst_164 at hf
      refine v_run C0 tbX5 cokX5_layFirst (pc' := 9) (lv' := [(2, .int (x2 + (1 : Int32))), (1, .int (s1 ||| s0)), (0, .ref a0)]) (st' := []) (h' := h) 4 rfl trivial ?_
      obtain rfl := Option.some.inj hf
      refine v_pick [2, 1, 0] rfl ?_
      exact kb1 _ rfl
    have n140 : ∀ (h : q_Hp) (x1 : Int32) (x2 : Int32), fX5_layFirst_140 σ h a0 x1 x2 = some z1 → V p l e { frames := 6, cells := 0, slots := 0, locals := 132 } s m args below meth c (MQ below (q_Qc D cy b0 (some (.int r)) σ h') args s 0 0 (fun q => b0 ≤ q)) D cy b0 6 0 0 0 0 σ h 140 [(0, .ref a0), (1, .int x1), (2, .int x2)] [] := by
      intro h x1 x2 hf
      unfold fX5_layFirst_140 at hf
      obtain ⟨g13, hf⟩ := q_gu_o hf
      refine v_run C0 tbX5 cokX5_layFirst (pc' := 149) (lv' := [(0, .ref a0), (1, .int x1), (2, .int x2)]) (st' := [.int (9 : Int32), .int (q_int h (q_ref σ a0 40) (Int32.toNatClampNeg x2)), .int x1]) (h' := h) 6 rfl ⟨⟨ta0, q_tn k1⟩, ⟨k1, g13⟩, trivial⟩ ?_
      refine v_icmp_ne C0 cokX5_layFirst rfl 156 (by decide) hf (fun _ hf => ?_) (fun _ hf => ?_)
      · refine v_run C0 tbX5 cokX5_layFirst (pc' := 164) (lv' := [(0, .ref a0), (1, .int x1), (2, .int x2)]) (st' := [.int (0 : Int32), .int x1]) (h' := h) 2 rfl trivial ?_
        refine v_pick [0, 2] rfl ?_
        exact n164 h x2 (0 : Int32) x1 hf
      · refine v_run C0 tbX5 cokX5_layFirst (pc' := 164) (lv' := [(0, .ref a0), (1, .int x1), (2, .int x2)]) (st' := [.int ((1 : Int32) <<< ((q_int h (q_ref σ a0 40) (Int32.toNatClampNeg x2)) &&& 31)), .int x1]) (h' := h) 6 rfl ⟨⟨ta0, q_tn k1⟩, ⟨k1, g13⟩, trivial⟩ ?_
        refine v_pick [0, 2] rfl ?_
        exact n164 h x2 ((1 : Int32) <<< ((q_int h (q_ref σ a0 40) (Int32.toNatClampNeg x2)) &&& 31)) x1 hf
    refine v_run C0 tbX5 cokX5_layFirst (pc' := 14) (lv' := [(0, .ref a0), (1, .int x1), (2, .int x2)]) (st' := [.int (q_int h a0 6), .int x2]) (h' := h) 3 rfl ⟨ta0, trivial⟩ ?_
    refine v_icmp_ge C0 cokX5_layFirst rfl 172 (by decide) hf (fun _ hf => ?_) (fun _ hf => ?_)
    · obtain rfl := Option.some.inj hf
      refine v_pick [1] rfl ?_
      have hx := kr1 _ rfl
      subst hx
      exact kx1
    · obtain ⟨⟨g3, g4⟩, hf⟩ := q_gu_o hf
      refine v_run C0 tbX5 cokX5_layFirst (pc' := 46) (lv' := [(4, .int ((q_int (q_si h (q_ref σ a0 40) (Int32.toNatClampNeg x2) (9 : Int32)) a0 0) - (1 : Int32))), (3, .int (q_int h (q_ref σ a0 39) (Int32.toNatClampNeg (((256 : Int32) * x2) + x1)))), (0, .ref a0), (1, .int x1), (2, .int x2)]) (st' := []) (h' := (q_si h (q_ref σ a0 40) (Int32.toNatClampNeg x2) (9 : Int32))) 19 rfl ⟨⟨ta0, q_tn k0⟩, ⟨k0, g3⟩, ⟨ta0, q_tn k1⟩, ⟨k1, g4⟩, ta0, trivial⟩ ?_
      obtain ⟨o5, eo5, hf⟩ := q_bd hf
      refine v_pick [2, 3, 4, 1, 0] rfl ?_
      refine n46 x1 x2 (q_int h (q_ref σ a0 39) (Int32.toNatClampNeg (((256 : Int32) * x2) + x1))) o5 (((q_int (q_si h (q_ref σ a0 40) (Int32.toNatClampNeg x2) (9 : Int32)) a0 0) - (1 : Int32)), (q_si h (q_ref σ a0 40) (Int32.toNatClampNeg x2) (9 : Int32))) eo5 ?_
      refine v_pick [0, 1, 2] rfl ?_
      exact n140 o5 x1 x2 hf
  refine v_run C0 tbX5 cokX5_layFirst (pc' := 1) (lv' := [(0, .ref a0)]) (st' := [.ref a0]) (h' := h) 1 rfl trivial ?_
  obtain ⟨r1, h1, e1, hf⟩ := q_bd2 hf
  refine v_callV C0 cokX5_layFirst rfl (rest := []) (ctX5_servedNow a0 ta0 e1) calX5_servedNow lkX5_267 inX5_servedNow dnX5_servedNow (ci := 5) ⟨rfl, by decide⟩ ta0 rfl rfl ⟨by decide, by decide⟩ (Nat.le_of_ble_eq_true rfl) (Nat.le_refl _) (Nat.le_refl _) ?_
  refine v_run C0 tbX5 cokX5_layFirst (pc' := 9) (lv' := [(2, .int (0 : Int32)), (1, .int (0 : Int32)), (0, .ref a0)]) (st' := []) (h' := h1) 5 rfl trivial ?_
  obtain ⟨o2, eo2, hf⟩ := q_bd hf
  refine v_pick [2, 1, 0] rfl ?_
  refine n9 o2 ((0 : Int32), (0 : Int32), h1) eo2 ?_
  refine v_run C0 tbX5 cokX5_layFirst (pc' := 173) (lv' := [(1, .int o2.1)]) (st' := [.int o2.1]) (h' := o2.2) 1 rfl trivial ?_
  obtain ⟨rfl, rfl⟩ := Prod.mk.inj (Option.some.inj hf)
  exact v_iret C0 cokX5_layFirst hr hlk rfl
