-- BackByNoonOnMondayModel.givesOf(I)I
noncomputable def fX5_givesOf (σ : q_St) (h : q_Hp) (a0 : Nat) (x1 : Int32) : Option Int32 := q_gu ((q_tag σ (q_ref σ a0 1) = 7)) (q_gu ((vp_in x1 (q_len σ (q_ref σ a0 1)))) ((if (q_int h (q_ref σ a0 1) (Int32.toNatClampNeg x1)) = (2 : Int32) then some (2 : Int32) else (if (q_int h (q_ref σ a0 1) (Int32.toNatClampNeg x1)) = (4 : Int32) then some (0 : Int32) else (if (q_int h (q_ref σ a0 1) (Int32.toNatClampNeg x1)) = (5 : Int32) then some (4 : Int32) else some (1 : Int32))))))
def cdX5_givesOf : q_Cd := [(0, .aload_n 0), (1, .getfield 7), (4, .iload_n 1), (5, .iaload), (6, .iconst 2), (7, .if_icmp .ne 7), (10, .iconst 2), (11, .goto 32), (14, .aload_n 0), (15, .getfield 7), (18, .iload_n 1), (19, .iaload), (20, .iconst 4), (21, .if_icmp .ne 7), (24, .iconst 0), (25, .goto 18), (28, .aload_n 0), (29, .getfield 7), (32, .iload_n 1), (33, .iaload), (34, .iconst 5), (35, .if_icmp .ne 7), (38, .iconst 4), (39, .goto 4), (42, .iconst 1), (43, .ireturn)]
set_option maxRecDepth 100000 in
theorem cokX5_givesOf : q_cok cX5_givesOf cdX5_givesOf := by unfold q_cok; decide +kernel
set_option maxRecDepth 100000 in
set_option maxHeartbeats 4000000 in
theorem ctX5_givesOf {l : Launch} {D : va_G} {cy : Nat → Nat} {b0 : Nat} {σ : q_St} {h : q_Hp} (a0 : Nat) (x1 : Int32) {r : Int32} (ta0 : q_tag σ a0 = 6) (hf : fX5_givesOf σ h a0 x1 = some r) : q_M l yX5_givesOf cX5_givesOf 2 (some .int) 0 0 0 0 D cy b0 σ h [.ref a0, .int x1] (some (.int r)) σ h := by
  unfold fX5_givesOf at hf
  obtain ⟨k0, hf⟩ := q_gu_o hf
  refine q_enter (by decide) (Nat.le_of_ble_eq_true rfl) ?_
  intro p e s m args below meth c C0 hr hlk hnm
  replace C0 : VC p { frames := 0, cells := 0, slots := 0, locals := 0 } s m args meth c D cy b0 2 0 0 RX5 cX5_givesOf := C0
  obtain ⟨g1, hf⟩ := q_gu_o hf
  refine v_run C0 tbX5 cokX5_givesOf (pc' := 7) (lv' := [(0, .ref a0), (1, .int x1)]) (st' := [.int (2 : Int32), .int (q_int h (q_ref σ a0 1) (Int32.toNatClampNeg x1))]) (h' := h) 5 rfl ⟨⟨ta0, q_tn k0⟩, ⟨k0, g1⟩, trivial⟩ ?_
  refine v_icmp_ne C0 cokX5_givesOf rfl 14 (by decide) hf (fun _ hf => ?_) (fun _ hf => ?_)
  · refine v_run C0 tbX5 cokX5_givesOf (pc' := 43) (lv' := [(0, .ref a0), (1, .int x1)]) (st' := [.int (2 : Int32)]) (h' := h) 2 rfl trivial ?_
    obtain rfl := Option.some.inj hf
    exact v_iret C0 cokX5_givesOf hr hlk rfl
  · refine v_run C0 tbX5 cokX5_givesOf (pc' := 21) (lv' := [(0, .ref a0), (1, .int x1)]) (st' := [.int (4 : Int32), .int (q_int h (q_ref σ a0 1) (Int32.toNatClampNeg x1))]) (h' := h) 5 rfl ⟨⟨ta0, q_tn k0⟩, ⟨k0, g1⟩, trivial⟩ ?_
    refine v_icmp_ne C0 cokX5_givesOf rfl 28 (by decide) hf (fun _ hf => ?_) (fun _ hf => ?_)
    · refine v_run C0 tbX5 cokX5_givesOf (pc' := 43) (lv' := [(0, .ref a0), (1, .int x1)]) (st' := [.int (0 : Int32)]) (h' := h) 2 rfl trivial ?_
      obtain rfl := Option.some.inj hf
      exact v_iret C0 cokX5_givesOf hr hlk rfl
    · refine v_run C0 tbX5 cokX5_givesOf (pc' := 35) (lv' := [(0, .ref a0), (1, .int x1)]) (st' := [.int (5 : Int32), .int (q_int h (q_ref σ a0 1) (Int32.toNatClampNeg x1))]) (h' := h) 5 rfl ⟨⟨ta0, q_tn k0⟩, ⟨k0, g1⟩, trivial⟩ ?_
      refine v_icmp_ne C0 cokX5_givesOf rfl 42 (by decide) hf (fun _ hf => ?_) (fun _ hf => ?_)
      · refine v_run C0 tbX5 cokX5_givesOf (pc' := 43) (lv' := [(0, .ref a0), (1, .int x1)]) (st' := [.int (4 : Int32)]) (h' := h) 2 rfl trivial ?_
        obtain rfl := Option.some.inj hf
        exact v_iret C0 cokX5_givesOf hr hlk rfl
      · refine v_run C0 tbX5 cokX5_givesOf (pc' := 43) (lv' := [(0, .ref a0), (1, .int x1)]) (st' := [.int (1 : Int32)]) (h' := h) 1 rfl trivial ?_
        obtain rfl := Option.some.inj hf
        exact v_iret C0 cokX5_givesOf hr hlk rfl
-- BackByNoonOnMondayModel.cleansOf(I)I
noncomputable def fX5_cleansOf (σ : q_St) (h : q_Hp) (a0 : Nat) (x1 : Int32) : Option Int32 := q_gu ((q_tag σ (q_ref σ a0 1) = 7) ∧ (q_tag σ (q_ref σ a0 2) = 7)) (q_gu ((vp_in x1 (q_len σ (q_ref σ a0 1)))) ((if (q_int h (q_ref σ a0 1) (Int32.toNatClampNeg x1)) = (1 : Int32) then some (4 : Int32) else (if (q_int h (q_ref σ a0 1) (Int32.toNatClampNeg x1)) = (2 : Int32) then some (3 : Int32) else (if (q_int h (q_ref σ a0 1) (Int32.toNatClampNeg x1)) = (3 : Int32) then some (2 : Int32) else (if (q_int h (q_ref σ a0 1) (Int32.toNatClampNeg x1)) = (4 : Int32) then some (8 : Int32) else (if (q_int h (q_ref σ a0 1) (Int32.toNatClampNeg x1)) = (5 : Int32) then some (3 : Int32) else (if (q_int h (q_ref σ a0 1) (Int32.toNatClampNeg x1)) = (6 : Int32) then some (2 : Int32) else (if (q_int h (q_ref σ a0 1) (Int32.toNatClampNeg x1)) = (7 : Int32) then q_gu ((vp_in x1 (q_len σ (q_ref σ a0 2)))) (some ((4 : Int32) + (q_int h (q_ref σ a0 2) (Int32.toNatClampNeg x1)))) else some (3 : Int32))))))))))
def cdX5_cleansOf : q_Cd := [(0, .aload_n 0), (1, .getfield 7), (4, .iload_n 1), (5, .iaload), (48, .iconst 4), (49, .ireturn), (50, .iconst 2), (51, .ireturn), (52, .bipush 8), (54, .ireturn), (55, .iconst 4), (56, .aload_n 0), (57, .getfield 13), (60, .iload_n 1), (61, .iaload), (62, .iadd), (63, .ireturn), (64, .iconst 3), (65, .ireturn)]
set_option maxRecDepth 100000 in
theorem cokX5_cleansOf : q_cok cX5_cleansOf cdX5_cleansOf := by unfold q_cok; decide +kernel
theorem dswX5_cleansOf_6 : decode cX5_cleansOf 6 = .ok (.tableswitch 58 1 7 #[42, 58, 44, 46, 58, 44, 49], 42) := by decide +kernel
set_option maxRecDepth 100000 in
set_option maxHeartbeats 4000000 in
theorem ctX5_cleansOf {l : Launch} {D : va_G} {cy : Nat → Nat} {b0 : Nat} {σ : q_St} {h : q_Hp} (a0 : Nat) (x1 : Int32) {r : Int32} (ta0 : q_tag σ a0 = 6) (hf : fX5_cleansOf σ h a0 x1 = some r) : q_M l yX5_cleansOf cX5_cleansOf 2 (some .int) 0 0 0 0 D cy b0 σ h [.ref a0, .int x1] (some (.int r)) σ h := by
  unfold fX5_cleansOf at hf
  obtain ⟨⟨k0, k1⟩, hf⟩ := q_gu_o hf
  refine q_enter (by decide) (Nat.le_of_ble_eq_true rfl) ?_
  intro p e s m args below meth c C0 hr hlk hnm
  replace C0 : VC p { frames := 0, cells := 0, slots := 0, locals := 0 } s m args meth c D cy b0 2 0 0 RX5 cX5_cleansOf := C0
  obtain ⟨g1, hf⟩ := q_gu_o hf
  refine v_run C0 tbX5 cokX5_cleansOf (pc' := 6) (lv' := [(0, .ref a0), (1, .int x1)]) (st' := [.int (q_int h (q_ref σ a0 1) (Int32.toNatClampNeg x1))]) (h' := h) 4 rfl ⟨⟨ta0, q_tn k0⟩, ⟨k0, g1⟩, trivial⟩ ?_
  rcases q_ite hf with ⟨d2, hf⟩ | ⟨d2, hf⟩
  · refine v_tabI C0 dswX5_cleansOf_6 d2 48 (by decide +kernel) (by decide +kernel) ?_
    refine v_run C0 tbX5 cokX5_cleansOf (pc' := 49) (lv' := [(0, .ref a0), (1, .int x1)]) (st' := [.int (4 : Int32)]) (h' := h) 1 rfl trivial ?_
    obtain rfl := Option.some.inj hf
    exact v_iret C0 cokX5_cleansOf hr hlk rfl
  · rcases q_ite hf with ⟨d3, hf⟩ | ⟨d3, hf⟩
    · refine v_tabI C0 dswX5_cleansOf_6 d3 64 (by decide +kernel) (by decide +kernel) ?_
      refine v_run C0 tbX5 cokX5_cleansOf (pc' := 65) (lv' := [(0, .ref a0), (1, .int x1)]) (st' := [.int (3 : Int32)]) (h' := h) 1 rfl trivial ?_
      obtain rfl := Option.some.inj hf
      exact v_iret C0 cokX5_cleansOf hr hlk rfl
    · rcases q_ite hf with ⟨d4, hf⟩ | ⟨d4, hf⟩
      · refine v_tabI C0 dswX5_cleansOf_6 d4 50 (by decide +kernel) (by decide +kernel) ?_
        refine v_run C0 tbX5 cokX5_cleansOf (pc' := 51) (lv' := [(0, .ref a0), (1, .int x1)]) (st' := [.int (2 : Int32)]) (h' := h) 1 rfl trivial ?_
        obtain rfl := Option.some.inj hf
        exact v_iret C0 cokX5_cleansOf hr hlk rfl
      · rcases q_ite hf with ⟨d5, hf⟩ | ⟨d5, hf⟩
        · refine v_tabI C0 dswX5_cleansOf_6 d5 52 (by decide +kernel) (by decide +kernel) ?_
          refine v_run C0 tbX5 cokX5_cleansOf (pc' := 54) (lv' := [(0, .ref a0), (1, .int x1)]) (st' := [.int (8 : Int32)]) (h' := h) 1 rfl trivial ?_
          obtain rfl := Option.some.inj hf
          exact v_iret C0 cokX5_cleansOf hr hlk rfl
        · rcases q_ite hf with ⟨d6, hf⟩ | ⟨d6, hf⟩
          · refine v_tabI C0 dswX5_cleansOf_6 d6 64 (by decide +kernel) (by decide +kernel) ?_
            refine v_run C0 tbX5 cokX5_cleansOf (pc' := 65) (lv' := [(0, .ref a0), (1, .int x1)]) (st' := [.int (3 : Int32)]) (h' := h) 1 rfl trivial ?_
            obtain rfl := Option.some.inj hf
            exact v_iret C0 cokX5_cleansOf hr hlk rfl
          · rcases q_ite hf with ⟨d7, hf⟩ | ⟨d7, hf⟩
            · refine v_tabI C0 dswX5_cleansOf_6 d7 50 (by decide +kernel) (by decide +kernel) ?_
              refine v_run C0 tbX5 cokX5_cleansOf (pc' := 51) (lv' := [(0, .ref a0), (1, .int x1)]) (st' := [.int (2 : Int32)]) (h' := h) 1 rfl trivial ?_
              obtain rfl := Option.some.inj hf
              exact v_iret C0 cokX5_cleansOf hr hlk rfl
            · rcases q_ite hf with ⟨d9, hf⟩ | ⟨d9, hf⟩
              · refine v_tabI C0 dswX5_cleansOf_6 d9 55 (by decide +kernel) (by decide +kernel) ?_
                obtain ⟨g8, hf⟩ := q_gu_o hf
                refine v_run C0 tbX5 cokX5_cleansOf (pc' := 63) (lv' := [(0, .ref a0), (1, .int x1)]) (st' := [.int ((4 : Int32) + (q_int h (q_ref σ a0 2) (Int32.toNatClampNeg x1)))]) (h' := h) 6 rfl ⟨⟨ta0, q_tn k1⟩, ⟨k1, g8⟩, trivial⟩ ?_
                obtain rfl := Option.some.inj hf
                exact v_iret C0 cokX5_cleansOf hr hlk rfl
              · refine v_tabO C0 dswX5_cleansOf_6 64 (by decide +kernel) (fun k h1 h2 hk => ?_) ?_
                · have hk2 : k = 1 ∨ k = 2 ∨ k = 3 ∨ k = 4 ∨ k = 5 ∨ k = 6 ∨ k = 7 := by omega
                  rcases hk2 with rfl | rfl | rfl | rfl | rfl | rfl | rfl
                  · exact d2 (Int32.toInt_inj.mp hk)
                  · exact d3 (Int32.toInt_inj.mp hk)
                  · exact d4 (Int32.toInt_inj.mp hk)
                  · exact d5 (Int32.toInt_inj.mp hk)
                  · exact d6 (Int32.toInt_inj.mp hk)
                  · exact d7 (Int32.toInt_inj.mp hk)
                  · exact d9 (Int32.toInt_inj.mp hk)
                · refine v_run C0 tbX5 cokX5_cleansOf (pc' := 65) (lv' := [(0, .ref a0), (1, .int x1)]) (st' := [.int (3 : Int32)]) (h' := h) 1 rfl trivial ?_
                  obtain rfl := Option.some.inj hf
                  exact v_iret C0 cokX5_cleansOf hr hlk rfl
-- BackByNoonOnMondayModel.lastsOf(I)I
noncomputable def fX5_lastsOf (σ : q_St) (h : q_Hp) (a0 : Nat) (x1 : Int32) : Option Int32 := q_gu ((q_tag σ (q_ref σ a0 1) = 7) ∧ (q_tag σ (q_ref σ a0 2) = 7)) (q_gu ((vp_in x1 (q_len σ (q_ref σ a0 1)))) ((if (q_int h (q_ref σ a0 1) (Int32.toNatClampNeg x1)) = (4 : Int32) then q_gu ((vp_in x1 (q_len σ (q_ref σ a0 2)))) (some (((20 : Int32) + (q_int h (q_ref σ a0 2) (Int32.toNatClampNeg x1))) / (2 : Int32))) else (if (q_int h (q_ref σ a0 1) (Int32.toNatClampNeg x1)) = (6 : Int32) then q_gu ((vp_in x1 (q_len σ (q_ref σ a0 2)))) (some ((5 : Int32) + (q_int h (q_ref σ a0 2) (Int32.toNatClampNeg x1)))) else q_gu ((vp_in x1 (q_len σ (q_ref σ a0 2)))) (some ((20 : Int32) + (q_int h (q_ref σ a0 2) (Int32.toNatClampNeg x1))))))))
def cdX5_lastsOf : q_Cd := [(0, .aload_n 0), (1, .getfield 7), (4, .iload_n 1), (5, .iaload), (6, .iconst 4), (7, .if_icmp .ne 17), (10, .bipush 20), (12, .aload_n 0), (13, .getfield 13), (16, .iload_n 1), (17, .iaload), (18, .iadd), (19, .iconst 2), (20, .idiv), (21, .goto 34), (24, .aload_n 0), (25, .getfield 7), (28, .iload_n 1), (29, .iaload), (30, .bipush 6), (32, .if_icmp .ne 14), (35, .iconst 5), (36, .aload_n 0), (37, .getfield 13), (40, .iload_n 1), (41, .iaload), (42, .iadd), (43, .goto 12), (46, .bipush 20), (48, .aload_n 0), (49, .getfield 13), (52, .iload_n 1), (53, .iaload), (54, .iadd), (55, .ireturn)]
set_option maxRecDepth 100000 in
theorem cokX5_lastsOf : q_cok cX5_lastsOf cdX5_lastsOf := by unfold q_cok; decide +kernel
set_option maxRecDepth 100000 in
set_option maxHeartbeats 4000000 in
theorem ctX5_lastsOf {l : Launch} {D : va_G} {cy : Nat → Nat} {b0 : Nat} {σ : q_St} {h : q_Hp} (a0 : Nat) (x1 : Int32) {r : Int32} (ta0 : q_tag σ a0 = 6) (hf : fX5_lastsOf σ h a0 x1 = some r) : q_M l yX5_lastsOf cX5_lastsOf 2 (some .int) 0 0 0 0 D cy b0 σ h [.ref a0, .int x1] (some (.int r)) σ h := by
  unfold fX5_lastsOf at hf
  obtain ⟨⟨k0, k1⟩, hf⟩ := q_gu_o hf
  refine q_enter (by decide) (Nat.le_of_ble_eq_true rfl) ?_
  intro p e s m args below meth c C0 hr hlk hnm
  replace C0 : VC p { frames := 0, cells := 0, slots := 0, locals := 0 } s m args meth c D cy b0 2 0 0 RX5 cX5_lastsOf := C0
  obtain ⟨g1, hf⟩ := q_gu_o hf
  refine v_run C0 tbX5 cokX5_lastsOf (pc' := 7) (lv' := [(0, .ref a0), (1, .int x1)]) (st' := [.int (4 : Int32), .int (q_int h (q_ref σ a0 1) (Int32.toNatClampNeg x1))]) (h' := h) 5 rfl ⟨⟨ta0, q_tn k0⟩, ⟨k0, g1⟩, trivial⟩ ?_
  refine v_icmp_ne C0 cokX5_lastsOf rfl 24 (by decide) hf (fun _ hf => ?_) (fun _ hf => ?_)
  · obtain ⟨g4, hf⟩ := q_gu_o hf
    refine v_run C0 tbX5 cokX5_lastsOf (pc' := 55) (lv' := [(0, .ref a0), (1, .int x1)]) (st' := [.int (((20 : Int32) + (q_int h (q_ref σ a0 2) (Int32.toNatClampNeg x1))) / (2 : Int32))]) (h' := h) 9 rfl ⟨⟨ta0, q_tn k1⟩, ⟨k1, g4⟩, (by decide), trivial⟩ ?_
    obtain rfl := Option.some.inj hf
    exact v_iret C0 cokX5_lastsOf hr hlk rfl
  · refine v_run C0 tbX5 cokX5_lastsOf (pc' := 32) (lv' := [(0, .ref a0), (1, .int x1)]) (st' := [.int (6 : Int32), .int (q_int h (q_ref σ a0 1) (Int32.toNatClampNeg x1))]) (h' := h) 5 rfl ⟨⟨ta0, q_tn k0⟩, ⟨k0, g1⟩, trivial⟩ ?_
    refine v_icmp_ne C0 cokX5_lastsOf rfl 46 (by decide) hf (fun _ hf => ?_) (fun _ hf => ?_)
    · obtain ⟨g3, hf⟩ := q_gu_o hf
      refine v_run C0 tbX5 cokX5_lastsOf (pc' := 55) (lv' := [(0, .ref a0), (1, .int x1)]) (st' := [.int ((5 : Int32) + (q_int h (q_ref σ a0 2) (Int32.toNatClampNeg x1)))]) (h' := h) 7 rfl ⟨⟨ta0, q_tn k1⟩, ⟨k1, g3⟩, trivial⟩ ?_
      obtain rfl := Option.some.inj hf
      exact v_iret C0 cokX5_lastsOf hr hlk rfl
    · obtain ⟨g2, hf⟩ := q_gu_o hf
      refine v_run C0 tbX5 cokX5_lastsOf (pc' := 55) (lv' := [(0, .ref a0), (1, .int x1)]) (st' := [.int ((20 : Int32) + (q_int h (q_ref σ a0 2) (Int32.toNatClampNeg x1)))]) (h' := h) 6 rfl ⟨⟨ta0, q_tn k1⟩, ⟨k1, g2⟩, trivial⟩ ?_
      obtain rfl := Option.some.inj hf
      exact v_iret C0 cokX5_lastsOf hr hlk rfl
-- BackByNoonOnMondayModel.priceOf(I)I
noncomputable def fX5_priceOf (σ : q_St) (h : q_Hp) (a0 : Nat) (x1 : Int32) : Option Int32 := q_gu ((q_tag σ (q_ref σ a0 1) = 7) ∧ (q_tag σ (q_ref σ a0 2) = 7)) (q_gu ((vp_in x1 (q_len σ (q_ref σ a0 1))) ∧ (vp_in x1 (q_len σ (q_ref σ a0 2)))) (((fX5_priceBy σ h (q_int h (q_ref σ a0 1) (Int32.toNatClampNeg x1)) (q_int h (q_ref σ a0 2) (Int32.toNatClampNeg x1))).bind fun r3 => some r3)))
def cdX5_priceOf : q_Cd := [(0, .aload_n 0), (1, .getfield 7), (4, .iload_n 1), (5, .iaload), (6, .aload_n 0), (7, .getfield 13), (10, .iload_n 1), (11, .iaload), (12, .invokestatic 103), (15, .ireturn)]
set_option maxRecDepth 100000 in
theorem cokX5_priceOf : q_cok cX5_priceOf cdX5_priceOf := by unfold q_cok; decide +kernel
set_option maxRecDepth 100000 in
set_option maxHeartbeats 4000000 in
theorem ctX5_priceOf {l : Launch} {D : va_G} {cy : Nat → Nat} {b0 : Nat} {σ : q_St} {h : q_Hp} (a0 : Nat) (x1 : Int32) {r : Int32} (ta0 : q_tag σ a0 = 6) (hf : fX5_priceOf σ h a0 x1 = some r) : q_M l yX5_priceOf cX5_priceOf 2 (some .int) 1 21 0 0 D cy b0 σ h [.ref a0, .int x1] (some (.int r)) σ h := by
  unfold fX5_priceOf at hf
  obtain ⟨⟨k0, k1⟩, hf⟩ := q_gu_o hf
  refine q_enter (by decide) (Nat.le_of_ble_eq_true rfl) ?_
  intro p e s m args below meth c C0 hr hlk hnm
  replace C0 : VC p { frames := 1, cells := 0, slots := 0, locals := 21 } s m args meth c D cy b0 2 0 0 RX5 cX5_priceOf := C0
  obtain ⟨⟨g1, g2⟩, hf⟩ := q_gu_o hf
  refine v_run C0 tbX5 cokX5_priceOf (pc' := 12) (lv' := [(0, .ref a0), (1, .int x1)]) (st' := [.int (q_int h (q_ref σ a0 2) (Int32.toNatClampNeg x1)), .int (q_int h (q_ref σ a0 1) (Int32.toNatClampNeg x1))]) (h' := h) 8 rfl ⟨⟨ta0, q_tn k0⟩, ⟨k0, g1⟩, ⟨ta0, q_tn k1⟩, ⟨k1, g2⟩, trivial⟩ ?_
  obtain ⟨r3, e3, hf⟩ := q_bd hf
  refine v_callS C0 cokX5_priceOf rfl (rest := []) (ctX5_priceBy (q_int h (q_ref σ a0 1) (Int32.toNatClampNeg x1)) (q_int h (q_ref σ a0 2) (Int32.toNatClampNeg x1)) e3) calX5_priceBy lkX5_103 inX5_priceBy dnX5_priceBy rfl rfl ⟨by decide, by decide⟩ (Nat.le_of_ble_eq_true rfl) (Nat.le_refl _) (Nat.le_refl _) ?_
  obtain rfl := Option.some.inj hf
  exact v_iret C0 cokX5_priceOf hr hlk rfl
-- BackByNoonOnMondayModel.fitsIn(II)Z
noncomputable def fX5_fitsIn (σ : q_St) (h : q_Hp) (a0 : Nat) (x1 : Int32) (x2 : Int32) : Option Int32 := q_gu ((q_tag σ (q_ref σ a0 3) = 7) ∧ (q_tag σ (q_ref σ a0 7) = 7)) (q_gu ((vp_in x1 (q_len σ (q_ref σ a0 3))) ∧ (vp_in x2 (q_len σ (q_ref σ a0 7)))) (((fX5_apart σ h (q_int h (q_ref σ a0 3) (Int32.toNatClampNeg x1)) (q_int h (q_ref σ a0 7) (Int32.toNatClampNeg x2))).bind fun r3 => ((fX5_givesOf σ h a0 x1).bind fun r4 => (if r4 < r3 then some (0 : Int32) else some (1 : Int32))))))
def cdX5_fitsIn : q_Cd := [(0, .aload_n 0), (1, .getfield 16), (4, .iload_n 1), (5, .iaload), (6, .aload_n 0), (7, .getfield 25), (10, .iload_n 2), (11, .iaload), (12, .invokestatic 107), (15, .aload_n 0), (16, .iload_n 1), (17, .invokevirtual 110), (20, .if_icmp .gt 7), (23, .iconst 1), (24, .goto 4), (27, .iconst 0), (28, .ireturn)]
set_option maxRecDepth 100000 in
theorem cokX5_fitsIn : q_cok cX5_fitsIn cdX5_fitsIn := by unfold q_cok; decide +kernel
set_option maxRecDepth 100000 in
set_option maxHeartbeats 4000000 in
theorem ctX5_fitsIn {l : Launch} {D : va_G} {cy : Nat → Nat} {b0 : Nat} {σ : q_St} {h : q_Hp} (a0 : Nat) (x1 : Int32) (x2 : Int32) {r : Int32} (ta0 : q_tag σ a0 = 6) (hf : fX5_fitsIn σ h a0 x1 x2 = some r) : q_M l yX5_fitsIn cX5_fitsIn 3 (some .boolean) 1 21 0 0 D cy b0 σ h [.ref a0, .int x1, .int x2] (some (.int r)) σ h := by
  unfold fX5_fitsIn at hf
  obtain ⟨⟨k0, k1⟩, hf⟩ := q_gu_o hf
  refine q_enter (by decide) (Nat.le_of_ble_eq_true rfl) ?_
  intro p e s m args below meth c C0 hr hlk hnm
  replace C0 : VC p { frames := 1, cells := 0, slots := 0, locals := 21 } s m args meth c D cy b0 3 0 0 RX5 cX5_fitsIn := C0
  obtain ⟨⟨g1, g2⟩, hf⟩ := q_gu_o hf
  refine v_run C0 tbX5 cokX5_fitsIn (pc' := 12) (lv' := [(0, .ref a0), (1, .int x1), (2, .int x2)]) (st' := [.int (q_int h (q_ref σ a0 7) (Int32.toNatClampNeg x2)), .int (q_int h (q_ref σ a0 3) (Int32.toNatClampNeg x1))]) (h' := h) 8 rfl ⟨⟨ta0, q_tn k0⟩, ⟨k0, g1⟩, ⟨ta0, q_tn k1⟩, ⟨k1, g2⟩, trivial⟩ ?_
  obtain ⟨r3, e3, hf⟩ := q_bd hf
  refine v_callS C0 cokX5_fitsIn rfl (rest := []) (ctX5_apart (q_int h (q_ref σ a0 3) (Int32.toNatClampNeg x1)) (q_int h (q_ref σ a0 7) (Int32.toNatClampNeg x2)) e3) calX5_apart lkX5_107 inX5_apart dnX5_apart rfl rfl ⟨by decide, by decide⟩ (Nat.le_of_ble_eq_true rfl) (Nat.le_refl _) (Nat.le_refl _) ?_
  refine v_run C0 tbX5 cokX5_fitsIn (pc' := 17) (lv' := [(0, .ref a0), (1, .int x1), (2, .int x2)]) (st' := [.int x1, .ref a0, .int r3]) (h' := h) 2 rfl trivial ?_
  obtain ⟨r4, e4, hf⟩ := q_bd hf
  refine v_callV C0 cokX5_fitsIn rfl (rest := [.int r3]) (ctX5_givesOf a0 x1 ta0 e4) calX5_givesOf lkX5_110 inX5_givesOf dnX5_givesOf (ci := 5) ⟨rfl, by decide⟩ ta0 rfl rfl ⟨by decide, by decide⟩ (Nat.le_of_ble_eq_true rfl) (Nat.le_refl _) (Nat.le_refl _) ?_
  refine v_icmp_gt C0 cokX5_fitsIn rfl 27 (by decide) hf (fun _ hf => ?_) (fun _ hf => ?_)
  · refine v_run C0 tbX5 cokX5_fitsIn (pc' := 28) (lv' := [(0, .ref a0), (1, .int x1), (2, .int x2)]) (st' := [.int (0 : Int32)]) (h' := h) 1 rfl trivial ?_
    obtain rfl := Option.some.inj hf
    exact v_zret C0 cokX5_fitsIn hr hlk rfl (Or.inl rfl)
  · refine v_run C0 tbX5 cokX5_fitsIn (pc' := 28) (lv' := [(0, .ref a0), (1, .int x1), (2, .int x2)]) (st' := [.int (1 : Int32)]) (h' := h) 2 rfl trivial ?_
    obtain rfl := Option.some.inj hf
    exact v_zret C0 cokX5_fitsIn hr hlk rfl (Or.inr rfl)
-- BackByNoonOnMondayModel.canHire(II)Z
noncomputable def fX5_canHire (σ : q_St) (h : q_Hp) (a0 : Nat) (x1 : Int32) (x2 : Int32) : Option Int32 := q_gu ((q_tag σ (q_ref σ a0 5) = 7) ∧ (q_tag σ (q_ref σ a0 12) = 7)) (q_gu ((vp_in x1 (q_len σ (q_ref σ a0 5)))) ((if (q_int h (q_ref σ a0 5) (Int32.toNatClampNeg x1)) = 0 then q_gu ((vp_in x2 (q_len σ (q_ref σ a0 12)))) ((if (q_int h (q_ref σ a0 12) (Int32.toNatClampNeg x2)) = (9 : Int32) then ((fX5_fitsIn σ h a0 x1 x2).bind fun r3 => (if r3 = 0 then some (0 : Int32) else ((fX5_priceOf σ h a0 x1).bind fun r4 => (if (9999 : Int32) < ((q_int h a0 13) + r4) then some (0 : Int32) else some (1 : Int32))))) else some (0 : Int32))) else some (0 : Int32))))
def cdX5_canHire : q_Cd := [(0, .aload_n 0), (1, .getfield 22), (4, .iload_n 1), (5, .iaload), (6, .ifCond .ne 43), (9, .aload_n 0), (10, .getfield 40), (13, .iload_n 2), (14, .iaload), (15, .bipush 9), (17, .if_icmp .ne 32), (20, .aload_n 0), (21, .iload_n 1), (22, .iload_n 2), (23, .invokevirtual 114), (26, .ifCond .eq 23), (29, .aload_n 0), (30, .getfield 118), (33, .aload_n 0), (34, .iload_n 1), (35, .invokevirtual 121), (38, .iadd), (39, .sipush 9999), (42, .if_icmp .gt 7), (45, .iconst 1), (46, .goto 4), (49, .iconst 0), (50, .ireturn)]
set_option maxRecDepth 100000 in
theorem cokX5_canHire : q_cok cX5_canHire cdX5_canHire := by unfold q_cok; decide +kernel
set_option maxRecDepth 100000 in
set_option maxHeartbeats 4000000 in
theorem ctX5_canHire {l : Launch} {D : va_G} {cy : Nat → Nat} {b0 : Nat} {σ : q_St} {h : q_Hp} (a0 : Nat) (x1 : Int32) (x2 : Int32) {r : Int32} (ta0 : q_tag σ a0 = 6) (hf : fX5_canHire σ h a0 x1 x2 = some r) : q_M l yX5_canHire cX5_canHire 3 (some .boolean) 2 43 0 0 D cy b0 σ h [.ref a0, .int x1, .int x2] (some (.int r)) σ h := by
  unfold fX5_canHire at hf
  obtain ⟨⟨k0, k1⟩, hf⟩ := q_gu_o hf
  refine q_enter (by decide) (Nat.le_of_ble_eq_true rfl) ?_
  intro p e s m args below meth c C0 hr hlk hnm
  replace C0 : VC p { frames := 2, cells := 0, slots := 0, locals := 43 } s m args meth c D cy b0 3 0 0 RX5 cX5_canHire := C0
  obtain ⟨g1, hf⟩ := q_gu_o hf
  refine v_run C0 tbX5 cokX5_canHire (pc' := 6) (lv' := [(0, .ref a0), (1, .int x1), (2, .int x2)]) (st' := [.int (q_int h (q_ref σ a0 5) (Int32.toNatClampNeg x1))]) (h' := h) 4 rfl ⟨⟨ta0, q_tn k0⟩, ⟨k0, g1⟩, trivial⟩ ?_
  refine v_if_ne C0 cokX5_canHire rfl 49 (by decide) hf (fun _ hf => ?_) (fun _ hf => ?_)
  · obtain ⟨g2, hf⟩ := q_gu_o hf
    refine v_run C0 tbX5 cokX5_canHire (pc' := 17) (lv' := [(0, .ref a0), (1, .int x1), (2, .int x2)]) (st' := [.int (9 : Int32), .int (q_int h (q_ref σ a0 12) (Int32.toNatClampNeg x2))]) (h' := h) 5 rfl ⟨⟨ta0, q_tn k1⟩, ⟨k1, g2⟩, trivial⟩ ?_
    refine v_icmp_ne C0 cokX5_canHire rfl 49 (by decide) hf (fun _ hf => ?_) (fun _ hf => ?_)
    · refine v_run C0 tbX5 cokX5_canHire (pc' := 23) (lv' := [(0, .ref a0), (1, .int x1), (2, .int x2)]) (st' := [.int x2, .int x1, .ref a0]) (h' := h) 3 rfl trivial ?_
      obtain ⟨r3, e3, hf⟩ := q_bd hf
      refine v_callV C0 cokX5_canHire rfl (rest := []) (ctX5_fitsIn a0 x1 x2 ta0 e3) calX5_fitsIn lkX5_114 inX5_fitsIn dnX5_fitsIn (ci := 5) ⟨rfl, by decide⟩ ta0 rfl rfl ⟨by decide, by decide⟩ (Nat.le_of_ble_eq_true rfl) (Nat.le_refl _) (Nat.le_refl _) ?_
      refine v_if_eq C0 cokX5_canHire rfl 49 (by decide) hf (fun _ hf => ?_) (fun _ hf => ?_)
      · refine v_run C0 tbX5 cokX5_canHire (pc' := 50) (lv' := [(0, .ref a0), (1, .int x1), (2, .int x2)]) (st' := [.int (0 : Int32)]) (h' := h) 1 rfl trivial ?_
        obtain rfl := Option.some.inj hf
        exact v_zret C0 cokX5_canHire hr hlk rfl (Or.inl rfl)
      · refine v_run C0 tbX5 cokX5_canHire (pc' := 35) (lv' := [(0, .ref a0), (1, .int x1), (2, .int x2)]) (st' := [.int x1, .ref a0, .int (q_int h a0 13)]) (h' := h) 4 rfl ⟨ta0, trivial⟩ ?_
        obtain ⟨r4, e4, hf⟩ := q_bd hf
        refine v_callV C0 cokX5_canHire rfl (rest := [.int (q_int h a0 13)]) (ctX5_priceOf a0 x1 ta0 e4) calX5_priceOf lkX5_121 inX5_priceOf dnX5_priceOf (ci := 5) ⟨rfl, by decide⟩ ta0 rfl rfl ⟨by decide, by decide⟩ (Nat.le_of_ble_eq_true rfl) (Nat.le_refl _) (Nat.le_refl _) ?_
        refine v_run C0 tbX5 cokX5_canHire (pc' := 42) (lv' := [(0, .ref a0), (1, .int x1), (2, .int x2)]) (st' := [.int (9999 : Int32), .int ((q_int h a0 13) + r4)]) (h' := h) 2 rfl trivial ?_
        refine v_icmp_gt C0 cokX5_canHire rfl 49 (by decide) hf (fun _ hf => ?_) (fun _ hf => ?_)
        · refine v_run C0 tbX5 cokX5_canHire (pc' := 50) (lv' := [(0, .ref a0), (1, .int x1), (2, .int x2)]) (st' := [.int (0 : Int32)]) (h' := h) 1 rfl trivial ?_
          obtain rfl := Option.some.inj hf
          exact v_zret C0 cokX5_canHire hr hlk rfl (Or.inl rfl)
        · refine v_run C0 tbX5 cokX5_canHire (pc' := 50) (lv' := [(0, .ref a0), (1, .int x1), (2, .int x2)]) (st' := [.int (1 : Int32)]) (h' := h) 2 rfl trivial ?_
          obtain rfl := Option.some.inj hf
          exact v_zret C0 cokX5_canHire hr hlk rfl (Or.inr rfl)
    · refine v_run C0 tbX5 cokX5_canHire (pc' := 50) (lv' := [(0, .ref a0), (1, .int x1), (2, .int x2)]) (st' := [.int (0 : Int32)]) (h' := h) 1 rfl trivial ?_
      obtain rfl := Option.some.inj hf
      exact v_zret C0 cokX5_canHire hr hlk rfl (Or.inl rfl)
  · refine v_run C0 tbX5 cokX5_canHire (pc' := 50) (lv' := [(0, .ref a0), (1, .int x1), (2, .int x2)]) (st' := [.int (0 : Int32)]) (h' := h) 1 rfl trivial ?_
    obtain rfl := Option.some.inj hf
    exact v_zret C0 cokX5_canHire hr hlk rfl (Or.inl rfl)
-- BackByNoonOnMondayModel.hire(II)V
noncomputable def fX5_hire_57 (σ : q_St) (h : q_Hp) (a0 : Nat) (x1 : Int32) (x2 : Int32) (s0 : Int32) (s1 : Int32) (s2 : Nat) : Option q_Hp := q_gu ((q_tag σ s2 = 7) ∧ (vp_in s1 (q_len σ s2))) (some (q_si h s2 (Int32.toNatClampNeg s1) s0))
noncomputable def fX5_hire (σ : q_St) (h : q_Hp) (a0 : Nat) (x1 : Int32) (x2 : Int32) : Option q_Hp := q_gu ((q_tag σ (q_ref σ a0 5) = 7) ∧ (q_tag σ (q_ref σ a0 12) = 7) ∧ (q_tag σ (q_ref σ a0 4) = 7)) (q_gu ((vp_in x1 (q_len σ (q_ref σ a0 5))) ∧ (vp_in x2 (q_len σ (q_ref σ a0 12)))) (((fX5_priceOf σ (q_si (q_si h (q_ref σ a0 5) (Int32.toNatClampNeg x1) (1 : Int32)) (q_ref σ a0 12) (Int32.toNatClampNeg x2) x1) a0 x1).bind fun r3 => q_gu ((vp_in x1 (q_len σ (q_ref σ a0 4)))) ((if (q_int (q_si (q_si (q_si h (q_ref σ a0 5) (Int32.toNatClampNeg x1) (1 : Int32)) (q_ref σ a0 12) (Int32.toNatClampNeg x2) x1) a0 13 ((q_int (q_si (q_si h (q_ref σ a0 5) (Int32.toNatClampNeg x1) (1 : Int32)) (q_ref σ a0 12) (Int32.toNatClampNeg x2) x1) a0 13) + r3)) (q_ref σ a0 4) (Int32.toNatClampNeg x1)) = (99 : Int32) then fX5_hire_57 σ (q_si (q_si (q_si h (q_ref σ a0 5) (Int32.toNatClampNeg x1) (1 : Int32)) (q_ref σ a0 12) (Int32.toNatClampNeg x2) x1) a0 13 ((q_int (q_si (q_si h (q_ref σ a0 5) (Int32.toNatClampNeg x1) (1 : Int32)) (q_ref σ a0 12) (Int32.toNatClampNeg x2) x1) a0 13) + r3)) a0 x1 x2 (99 : Int32) x1 (q_ref σ a0 4) else fX5_hire_57 σ (q_si (q_si (q_si h (q_ref σ a0 5) (Int32.toNatClampNeg x1) (1 : Int32)) (q_ref σ a0 12) (Int32.toNatClampNeg x2) x1) a0 13 ((q_int (q_si (q_si h (q_ref σ a0 5) (Int32.toNatClampNeg x1) (1 : Int32)) (q_ref σ a0 12) (Int32.toNatClampNeg x2) x1) a0 13) + r3)) a0 x1 x2 ((q_int (q_si (q_si (q_si h (q_ref σ a0 5) (Int32.toNatClampNeg x1) (1 : Int32)) (q_ref σ a0 12) (Int32.toNatClampNeg x2) x1) a0 13 ((q_int (q_si (q_si h (q_ref σ a0 5) (Int32.toNatClampNeg x1) (1 : Int32)) (q_ref σ a0 12) (Int32.toNatClampNeg x2) x1) a0 13) + r3)) (q_ref σ a0 4) (Int32.toNatClampNeg x1)) + (1 : Int32)) x1 (q_ref σ a0 4))))))
def cdX5_hire : q_Cd := [(0, .aload_n 0), (1, .getfield 22), (4, .iload_n 1), (5, .iconst 1), (6, .iastore), (7, .aload_n 0), (8, .getfield 40), (11, .iload_n 2), (12, .iload_n 1), (13, .iastore), (14, .aload_n 0), (15, .dup), (16, .getfield 118), (19, .aload_n 0), (20, .iload_n 1), (21, .invokevirtual 121), (24, .iadd), (25, .putfield 118), (28, .aload_n 0), (29, .getfield 19), (32, .iload_n 1), (33, .aload_n 0), (34, .getfield 19), (37, .iload_n 1), (38, .iaload), (39, .bipush 99), (41, .if_icmp .ne 8), (44, .bipush 99), (46, .goto 11), (49, .aload_n 0), (50, .getfield 19), (53, .iload_n 1), (54, .iaload), (55, .iconst 1), (56, .iadd), (57, .iastore), (58, .return_)]
set_option maxRecDepth 100000 in
theorem cokX5_hire : q_cok cX5_hire cdX5_hire := by unfold q_cok; decide +kernel
set_option maxRecDepth 100000 in
set_option maxHeartbeats 4000000 in
theorem ctX5_hire {l : Launch} {D : va_G} {cy : Nat → Nat} {b0 : Nat} {σ : q_St} {h : q_Hp} (a0 : Nat) (x1 : Int32) (x2 : Int32) {h' : q_Hp} (ta0 : q_tag σ a0 = 6) (hf : fX5_hire σ h a0 x1 x2 = some h') : q_M l yX5_hire cX5_hire 3 none 2 42 0 0 D cy b0 σ h [.ref a0, .int x1, .int x2] none σ h' := by
  unfold fX5_hire at hf
  obtain ⟨⟨k0, k1, k2⟩, hf⟩ := q_gu_o hf
  refine q_enter (by decide) (Nat.le_of_ble_eq_true rfl) ?_
  intro p e s m args below meth c C0 hr hlk hnm
  replace C0 : VC p { frames := 2, cells := 0, slots := 0, locals := 42 } s m args meth c D cy b0 3 0 0 RX5 cX5_hire := C0
  have n57 : ∀ (h : q_Hp) (s0 : Int32) (s1 : Int32) (s2 : Nat), fX5_hire_57 σ h a0 x1 x2 s0 s1 s2 = some h' → V p l e { frames := 2, cells := 0, slots := 0, locals := 42 } s m args below meth c (MQ below (q_Qc D cy b0 none σ h') args s 0 0 (fun q => b0 ≤ q)) D cy b0 3 0 0 0 0 σ h 57 [] [.int s0, .int s1, .ref s2] := by
    intro h s0 s1 s2 hf
    unfold fX5_hire_57 at hf
    obtain ⟨⟨g5, g6⟩, hf⟩ := q_gu_o hf
    refine v_run C0 tbX5 cokX5_hire (pc' := 58) (lv' := []) (st' := []) (h' := (q_si h s2 (Int32.toNatClampNeg s1) s0)) 1 rfl ⟨⟨g5, g6⟩, trivial⟩ ?_
    obtain rfl := Option.some.inj hf
    exact v_vret C0 cokX5_hire hr hlk rfl
  obtain ⟨⟨g1, g2⟩, hf⟩ := q_gu_o hf
  refine v_run C0 tbX5 cokX5_hire (pc' := 21) (lv' := [(0, .ref a0), (1, .int x1), (2, .int x2)]) (st' := [.int x1, .ref a0, .int (q_int (q_si (q_si h (q_ref σ a0 5) (Int32.toNatClampNeg x1) (1 : Int32)) (q_ref σ a0 12) (Int32.toNatClampNeg x2) x1) a0 13), .ref a0]) (h' := (q_si (q_si h (q_ref σ a0 5) (Int32.toNatClampNeg x1) (1 : Int32)) (q_ref σ a0 12) (Int32.toNatClampNeg x2) x1)) 15 rfl ⟨⟨ta0, q_tn k0⟩, ⟨k0, g1⟩, ⟨ta0, q_tn k1⟩, ⟨k1, g2⟩, ta0, trivial⟩ ?_
  obtain ⟨r3, e3, hf⟩ := q_bd hf
  refine v_callV C0 cokX5_hire rfl (rest := [.int (q_int (q_si (q_si h (q_ref σ a0 5) (Int32.toNatClampNeg x1) (1 : Int32)) (q_ref σ a0 12) (Int32.toNatClampNeg x2) x1) a0 13), .ref a0]) (ctX5_priceOf a0 x1 ta0 e3) calX5_priceOf lkX5_121 inX5_priceOf dnX5_priceOf (ci := 5) ⟨rfl, by decide⟩ ta0 rfl rfl ⟨by decide, by decide⟩ (Nat.le_of_ble_eq_true rfl) (Nat.le_refl _) (Nat.le_refl _) ?_
  obtain ⟨g4, hf⟩ := q_gu_o hf
  refine v_run C0 tbX5 cokX5_hire (pc' := 41) (lv' := [(0, .ref a0), (1, .int x1), (2, .int x2)]) (st' := [.int (99 : Int32), .int (q_int (q_si (q_si (q_si h (q_ref σ a0 5) (Int32.toNatClampNeg x1) (1 : Int32)) (q_ref σ a0 12) (Int32.toNatClampNeg x2) x1) a0 13 ((q_int (q_si (q_si h (q_ref σ a0 5) (Int32.toNatClampNeg x1) (1 : Int32)) (q_ref σ a0 12) (Int32.toNatClampNeg x2) x1) a0 13) + r3)) (q_ref σ a0 4) (Int32.toNatClampNeg x1)), .int x1, .ref (q_ref σ a0 4)]) (h' := (q_si (q_si (q_si h (q_ref σ a0 5) (Int32.toNatClampNeg x1) (1 : Int32)) (q_ref σ a0 12) (Int32.toNatClampNeg x2) x1) a0 13 ((q_int (q_si (q_si h (q_ref σ a0 5) (Int32.toNatClampNeg x1) (1 : Int32)) (q_ref σ a0 12) (Int32.toNatClampNeg x2) x1) a0 13) + r3))) 10 rfl ⟨ta0, ⟨ta0, q_tn k2⟩, ⟨ta0, q_tn k2⟩, ⟨k2, g4⟩, trivial⟩ ?_
  refine v_icmp_ne C0 cokX5_hire rfl 49 (by decide) hf (fun _ hf => ?_) (fun _ hf => ?_)
  · refine v_run C0 tbX5 cokX5_hire (pc' := 57) (lv' := [(0, .ref a0), (1, .int x1), (2, .int x2)]) (st' := [.int (99 : Int32), .int x1, .ref (q_ref σ a0 4)]) (h' := (q_si (q_si (q_si h (q_ref σ a0 5) (Int32.toNatClampNeg x1) (1 : Int32)) (q_ref σ a0 12) (Int32.toNatClampNeg x2) x1) a0 13 ((q_int (q_si (q_si h (q_ref σ a0 5) (Int32.toNatClampNeg x1) (1 : Int32)) (q_ref σ a0 12) (Int32.toNatClampNeg x2) x1) a0 13) + r3))) 2 rfl trivial ?_
    refine v_pick [] rfl ?_
    exact n57 (q_si (q_si (q_si h (q_ref σ a0 5) (Int32.toNatClampNeg x1) (1 : Int32)) (q_ref σ a0 12) (Int32.toNatClampNeg x2) x1) a0 13 ((q_int (q_si (q_si h (q_ref σ a0 5) (Int32.toNatClampNeg x1) (1 : Int32)) (q_ref σ a0 12) (Int32.toNatClampNeg x2) x1) a0 13) + r3)) (99 : Int32) x1 (q_ref σ a0 4) hf
  · refine v_run C0 tbX5 cokX5_hire (pc' := 57) (lv' := [(0, .ref a0), (1, .int x1), (2, .int x2)]) (st' := [.int ((q_int (q_si (q_si (q_si h (q_ref σ a0 5) (Int32.toNatClampNeg x1) (1 : Int32)) (q_ref σ a0 12) (Int32.toNatClampNeg x2) x1) a0 13 ((q_int (q_si (q_si h (q_ref σ a0 5) (Int32.toNatClampNeg x1) (1 : Int32)) (q_ref σ a0 12) (Int32.toNatClampNeg x2) x1) a0 13) + r3)) (q_ref σ a0 4) (Int32.toNatClampNeg x1)) + (1 : Int32)), .int x1, .ref (q_ref σ a0 4)]) (h' := (q_si (q_si (q_si h (q_ref σ a0 5) (Int32.toNatClampNeg x1) (1 : Int32)) (q_ref σ a0 12) (Int32.toNatClampNeg x2) x1) a0 13 ((q_int (q_si (q_si h (q_ref σ a0 5) (Int32.toNatClampNeg x1) (1 : Int32)) (q_ref σ a0 12) (Int32.toNatClampNeg x2) x1) a0 13) + r3))) 6 rfl ⟨⟨ta0, q_tn k2⟩, ⟨k2, g4⟩, trivial⟩ ?_
    refine v_pick [] rfl ?_
    exact n57 (q_si (q_si (q_si h (q_ref σ a0 5) (Int32.toNatClampNeg x1) (1 : Int32)) (q_ref σ a0 12) (Int32.toNatClampNeg x2) x1) a0 13 ((q_int (q_si (q_si h (q_ref σ a0 5) (Int32.toNatClampNeg x1) (1 : Int32)) (q_ref σ a0 12) (Int32.toNatClampNeg x2) x1) a0 13) + r3)) ((q_int (q_si (q_si (q_si h (q_ref σ a0 5) (Int32.toNatClampNeg x1) (1 : Int32)) (q_ref σ a0 12) (Int32.toNatClampNeg x2) x1) a0 13 ((q_int (q_si (q_si h (q_ref σ a0 5) (Int32.toNatClampNeg x1) (1 : Int32)) (q_ref σ a0 12) (Int32.toNatClampNeg x2) x1) a0 13) + r3)) (q_ref σ a0 4) (Int32.toNatClampNeg x1)) + (1 : Int32)) x1 (q_ref σ a0 4) hf
-- BackByNoonOnMondayModel.bookingOf(I)I
noncomputable def fX5_bookingOf_28 (σ : q_St) (h : q_Hp) (a0 : Nat) (x1 : Int32) (x3 : Int32) (s0 : Int32) : Option ((Int32 × Int32) ⊕ Int32) := some (Sum.inl (s0, (x3 + (1 : Int32))))
noncomputable def fX5_bookingOf_5 (σ : q_St) (h : q_Hp) (a0 : Nat) (x1 : Int32) (x2 : Int32) (x3 : Int32) : Option ((Int32 × Int32) ⊕ Int32) := (if (q_int h a0 6) ≤ x3 then some (Sum.inr x2) else q_gu ((vp_in x3 (q_len σ (q_ref σ a0 12)))) ((if (q_int h (q_ref σ a0 12) (Int32.toNatClampNeg x3)) = x1 then fX5_bookingOf_28 σ h a0 x1 x3 x3 else fX5_bookingOf_28 σ h a0 x1 x3 x2)))
noncomputable def fX5_bookingOf (σ : q_St) (h : q_Hp) (a0 : Nat) (x1 : Int32) : Option Int32 := q_gu ((q_tag σ (q_ref σ a0 12) = 7)) ((q_loop (fun s => fX5_bookingOf_5 σ h a0 x1 s.1 s.2) q_N ((-4 : Int32), (0 : Int32))).bind fun o1 => some o1)
def cdX5_bookingOf : q_Cd := [(0, .bipush (-4)), (2, .istore_n 2), (3, .iconst 0), (4, .istore_n 3), (5, .iload_n 3), (6, .aload_n 0), (7, .getfield 100), (10, .if_icmp .ge 25), (13, .aload_n 0), (14, .getfield 40), (17, .iload_n 3), (18, .iaload), (19, .iload_n 1), (20, .if_icmp .ne 7), (23, .iload_n 3), (24, .goto 4), (27, .iload_n 2), (28, .istore_n 2), (29, .iinc 3 1), (32, .goto (-27)), (35, .iload_n 2), (36, .ireturn)]
set_option maxRecDepth 100000 in
theorem cokX5_bookingOf : q_cok cX5_bookingOf cdX5_bookingOf := by unfold q_cok; decide +kernel
set_option maxRecDepth 100000 in
set_option maxHeartbeats 4000000 in
theorem ctX5_bookingOf {l : Launch} {D : va_G} {cy : Nat → Nat} {b0 : Nat} {σ : q_St} {h : q_Hp} (a0 : Nat) (x1 : Int32) {r : Int32} (ta0 : q_tag σ a0 = 6) (hf : fX5_bookingOf σ h a0 x1 = some r) : q_M l yX5_bookingOf cX5_bookingOf 4 (some .int) 0 0 0 0 D cy b0 σ h [.ref a0, .int x1] (some (.int r)) σ h := by
  unfold fX5_bookingOf at hf
  obtain ⟨k0, hf⟩ := q_gu_o hf
  refine q_enter (by decide) (Nat.le_of_ble_eq_true rfl) ?_
  intro p e s m args below meth c C0 hr hlk hnm
  replace C0 : VC p { frames := 0, cells := 0, slots := 0, locals := 0 } s m args meth c D cy b0 4 0 0 RX5 cX5_bookingOf := C0
  have n5 : ∀ (o : Int32) (s1 : (Int32 × Int32)), q_loop (fun s => fX5_bookingOf_5 σ h a0 x1 s.1 s.2) q_N s1 = some o → V p l e { frames := 0, cells := 0, slots := 0, locals := 0 } s m args below meth c (MQ below (q_Qc D cy b0 (some (.int r)) σ h) args s 0 0 (fun q => b0 ≤ q)) D cy b0 4 0 0 0 0 σ h 35 [(2, .int o)] [] → V p l e { frames := 0, cells := 0, slots := 0, locals := 0 } s m args below meth c (MQ below (q_Qc D cy b0 (some (.int r)) σ h) args s 0 0 (fun q => b0 ≤ q)) D cy b0 4 0 0 0 0 σ h 5 [(0, .ref a0), (1, .int x1), (2, .int s1.1), (3, .int s1.2)] [] := by
    intro o s1 ho kx1
    refine q_loop_V (P := fun s0 => V p l e { frames := 0, cells := 0, slots := 0, locals := 0 } s m args below meth c (MQ below (q_Qc D cy b0 (some (.int r)) σ h) args s 0 0 (fun q => b0 ≤ q)) D cy b0 4 0 0 0 0 σ h 5 [(0, .ref a0), (1, .int x1), (2, .int s0.1), (3, .int s0.2)] []) (o := o) ?_ q_N s1 ho
    intro s2 z1 hf kb1 kr1
    obtain ⟨x2, x3⟩ := s2
    replace hf : fX5_bookingOf_5 σ h a0 x1 x2 x3 = some z1 := hf
    unfold fX5_bookingOf_5 at hf
    show V p l e { frames := 0, cells := 0, slots := 0, locals := 0 } s m args below meth c (MQ below (q_Qc D cy b0 (some (.int r)) σ h) args s 0 0 (fun q => b0 ≤ q)) D cy b0 4 0 0 0 0 σ h 5 [(0, .ref a0), (1, .int x1), (2, .int x2), (3, .int x3)] []
    have n28 : ∀ (x3 : Int32) (s0 : Int32), fX5_bookingOf_28 σ h a0 x1 x3 s0 = some z1 → V p l e { frames := 0, cells := 0, slots := 0, locals := 0 } s m args below meth c (MQ below (q_Qc D cy b0 (some (.int r)) σ h) args s 0 0 (fun q => b0 ≤ q)) D cy b0 4 0 0 0 0 σ h 28 [(0, .ref a0), (1, .int x1), (3, .int x3)] [.int s0] := by
      intro x3 s0 hf
      unfold fX5_bookingOf_28 at hf
      refine v_run C0 tbX5 cokX5_bookingOf (pc' := 5) (lv' := [(3, .int (x3 + (1 : Int32))), (2, .int s0), (0, .ref a0), (1, .int x1)]) (st' := []) (h' := h) 3 rfl trivial ?_
      obtain rfl := Option.some.inj hf
      refine v_pick [2, 3, 1, 0] rfl ?_
      exact kb1 _ rfl
    refine v_run C0 tbX5 cokX5_bookingOf (pc' := 10) (lv' := [(0, .ref a0), (1, .int x1), (2, .int x2), (3, .int x3)]) (st' := [.int (q_int h a0 6), .int x3]) (h' := h) 3 rfl ⟨ta0, trivial⟩ ?_
    refine v_icmp_ge C0 cokX5_bookingOf rfl 35 (by decide) hf (fun _ hf => ?_) (fun _ hf => ?_)
    · obtain rfl := Option.some.inj hf
      refine v_pick [2] rfl ?_
      have hx := kr1 _ rfl
      subst hx
      exact kx1
    · obtain ⟨g2, hf⟩ := q_gu_o hf
      refine v_run C0 tbX5 cokX5_bookingOf (pc' := 20) (lv' := [(0, .ref a0), (1, .int x1), (2, .int x2), (3, .int x3)]) (st' := [.int x1, .int (q_int h (q_ref σ a0 12) (Int32.toNatClampNeg x3))]) (h' := h) 5 rfl ⟨⟨ta0, q_tn k0⟩, ⟨k0, g2⟩, trivial⟩ ?_
      refine v_icmp_ne C0 cokX5_bookingOf rfl 27 (by decide) hf (fun _ hf => ?_) (fun _ hf => ?_)
      · refine v_run C0 tbX5 cokX5_bookingOf (pc' := 28) (lv' := [(0, .ref a0), (1, .int x1), (2, .int x2), (3, .int x3)]) (st' := [.int x3]) (h' := h) 2 rfl trivial ?_
        refine v_pick [0, 1, 3] rfl ?_
        exact n28 x3 x3 hf
      · refine v_run C0 tbX5 cokX5_bookingOf (pc' := 28) (lv' := [(0, .ref a0), (1, .int x1), (2, .int x2), (3, .int x3)]) (st' := [.int x2]) (h' := h) 1 rfl trivial ?_
        refine v_pick [0, 1, 3] rfl ?_
        exact n28 x3 x2 hf
  refine v_run C0 tbX5 cokX5_bookingOf (pc' := 5) (lv' := [(3, .int (0 : Int32)), (2, .int (-4 : Int32)), (0, .ref a0), (1, .int x1)]) (st' := []) (h' := h) 4 rfl trivial ?_
  obtain ⟨o1, eo1, hf⟩ := q_bd hf
  refine v_pick [2, 3, 1, 0] rfl ?_
  refine n5 o1 ((-4 : Int32), (0 : Int32)) eo1 ?_
  refine v_run C0 tbX5 cokX5_bookingOf (pc' := 36) (lv' := [(2, .int o1)]) (st' := [.int o1]) (h' := h) 1 rfl trivial ?_
  obtain rfl := Option.some.inj hf
  exact v_iret C0 cokX5_bookingOf hr hlk rfl
-- BackByNoonOnMondayModel.comeBack(I)V
noncomputable def fX5_comeBack (σ : q_St) (h : q_Hp) (a0 : Nat) (x1 : Int32) : Option q_Hp := q_gu ((q_tag σ (q_ref σ a0 12) = 7) ∧ (q_tag σ (q_ref σ a0 5) = 7)) (((fX5_bookingOf σ h a0 x1).bind fun r1 => q_gu ((vp_in r1 (q_len σ (q_ref σ a0 12))) ∧ (vp_in x1 (q_len σ (q_ref σ a0 5)))) (some (q_si (q_si h (q_ref σ a0 12) (Int32.toNatClampNeg r1) (9 : Int32)) (q_ref σ a0 5) (Int32.toNatClampNeg x1) (2 : Int32)))))
def cdX5_comeBack : q_Cd := [(0, .aload_n 0), (1, .getfield 40), (4, .aload_n 0), (5, .iload_n 1), (6, .invokevirtual 124), (9, .bipush 9), (11, .iastore), (12, .aload_n 0), (13, .getfield 22), (16, .iload_n 1), (17, .iconst 2), (18, .iastore), (19, .return_)]
set_option maxRecDepth 100000 in
theorem cokX5_comeBack : q_cok cX5_comeBack cdX5_comeBack := by unfold q_cok; decide +kernel
set_option maxRecDepth 100000 in
set_option maxHeartbeats 4000000 in
theorem ctX5_comeBack {l : Launch} {D : va_G} {cy : Nat → Nat} {b0 : Nat} {σ : q_St} {h : q_Hp} (a0 : Nat) (x1 : Int32) {h' : q_Hp} (ta0 : q_tag σ a0 = 6) (hf : fX5_comeBack σ h a0 x1 = some h') : q_M l yX5_comeBack cX5_comeBack 2 none 1 23 0 0 D cy b0 σ h [.ref a0, .int x1] none σ h' := by
  unfold fX5_comeBack at hf
  obtain ⟨⟨k0, k1⟩, hf⟩ := q_gu_o hf
  refine q_enter (by decide) (Nat.le_of_ble_eq_true rfl) ?_
  intro p e s m args below meth c C0 hr hlk hnm
  replace C0 : VC p { frames := 1, cells := 0, slots := 0, locals := 23 } s m args meth c D cy b0 2 0 0 RX5 cX5_comeBack := C0
  refine v_run C0 tbX5 cokX5_comeBack (pc' := 6) (lv' := [(0, .ref a0), (1, .int x1)]) (st' := [.int x1, .ref a0, .ref (q_ref σ a0 12)]) (h' := h) 4 rfl ⟨⟨ta0, q_tn k0⟩, trivial⟩ ?_
  obtain ⟨r1, e1, hf⟩ := q_bd hf
  refine v_callV C0 cokX5_comeBack rfl (rest := [.ref (q_ref σ a0 12)]) (ctX5_bookingOf a0 x1 ta0 e1) calX5_bookingOf lkX5_124 inX5_bookingOf dnX5_bookingOf (ci := 5) ⟨rfl, by decide⟩ ta0 rfl rfl ⟨by decide, by decide⟩ (Nat.le_of_ble_eq_true rfl) (Nat.le_refl _) (Nat.le_refl _) ?_
  obtain ⟨⟨g2, g3⟩, hf⟩ := q_gu_o hf
  refine v_run C0 tbX5 cokX5_comeBack (pc' := 19) (lv' := [(0, .ref a0), (1, .int x1)]) (st' := []) (h' := (q_si (q_si h (q_ref σ a0 12) (Int32.toNatClampNeg r1) (9 : Int32)) (q_ref σ a0 5) (Int32.toNatClampNeg x1) (2 : Int32))) 7 rfl ⟨⟨k0, g2⟩, ⟨ta0, q_tn k1⟩, ⟨k1, g3⟩, trivial⟩ ?_
  obtain rfl := Option.some.inj hf
  exact v_vret C0 cokX5_comeBack hr hlk rfl
-- BackByNoonOnMondayModel.canClean(I)Z
noncomputable def fX5_canClean (σ : q_St) (h : q_Hp) (a0 : Nat) (x1 : Int32) : Option Int32 := q_gu ((q_tag σ (q_ref σ a0 5) = 7)) (q_gu ((vp_in x1 (q_len σ (q_ref σ a0 5)))) ((if (q_int h (q_ref σ a0 5) (Int32.toNatClampNeg x1)) = (2 : Int32) then ((fX5_cleansOf σ h a0 x1).bind fun r2 => (if (999 : Int32) < ((q_int h a0 14) + r2) then some (0 : Int32) else some (1 : Int32))) else some (0 : Int32))))
def cdX5_canClean : q_Cd := [(0, .aload_n 0), (1, .getfield 22), (4, .iload_n 1), (5, .iaload), (6, .iconst 2), (7, .if_icmp .ne 23), (10, .aload_n 0), (11, .getfield 127), (14, .aload_n 0), (15, .iload_n 1), (16, .invokevirtual 130), (19, .iadd), (20, .sipush 999), (23, .if_icmp .gt 7), (26, .iconst 1), (27, .goto 4), (30, .iconst 0), (31, .ireturn)]
set_option maxRecDepth 100000 in
theorem cokX5_canClean : q_cok cX5_canClean cdX5_canClean := by unfold q_cok; decide +kernel
set_option maxRecDepth 100000 in
set_option maxHeartbeats 4000000 in
theorem ctX5_canClean {l : Launch} {D : va_G} {cy : Nat → Nat} {b0 : Nat} {σ : q_St} {h : q_Hp} (a0 : Nat) (x1 : Int32) {r : Int32} (ta0 : q_tag σ a0 = 6) (hf : fX5_canClean σ h a0 x1 = some r) : q_M l yX5_canClean cX5_canClean 2 (some .boolean) 1 21 0 0 D cy b0 σ h [.ref a0, .int x1] (some (.int r)) σ h := by
  unfold fX5_canClean at hf
  obtain ⟨k0, hf⟩ := q_gu_o hf
  refine q_enter (by decide) (Nat.le_of_ble_eq_true rfl) ?_
  intro p e s m args below meth c C0 hr hlk hnm
  replace C0 : VC p { frames := 1, cells := 0, slots := 0, locals := 21 } s m args meth c D cy b0 2 0 0 RX5 cX5_canClean := C0
  obtain ⟨g1, hf⟩ := q_gu_o hf
  refine v_run C0 tbX5 cokX5_canClean (pc' := 7) (lv' := [(0, .ref a0), (1, .int x1)]) (st' := [.int (2 : Int32), .int (q_int h (q_ref σ a0 5) (Int32.toNatClampNeg x1))]) (h' := h) 5 rfl ⟨⟨ta0, q_tn k0⟩, ⟨k0, g1⟩, trivial⟩ ?_
  refine v_icmp_ne C0 cokX5_canClean rfl 30 (by decide) hf (fun _ hf => ?_) (fun _ hf => ?_)
  · refine v_run C0 tbX5 cokX5_canClean (pc' := 16) (lv' := [(0, .ref a0), (1, .int x1)]) (st' := [.int x1, .ref a0, .int (q_int h a0 14)]) (h' := h) 4 rfl ⟨ta0, trivial⟩ ?_
    obtain ⟨r2, e2, hf⟩ := q_bd hf
    refine v_callV C0 cokX5_canClean rfl (rest := [.int (q_int h a0 14)]) (ctX5_cleansOf a0 x1 ta0 e2) calX5_cleansOf lkX5_130 inX5_cleansOf dnX5_cleansOf (ci := 5) ⟨rfl, by decide⟩ ta0 rfl rfl ⟨by decide, by decide⟩ (Nat.le_of_ble_eq_true rfl) (Nat.le_refl _) (Nat.le_refl _) ?_
    refine v_run C0 tbX5 cokX5_canClean (pc' := 23) (lv' := [(0, .ref a0), (1, .int x1)]) (st' := [.int (999 : Int32), .int ((q_int h a0 14) + r2)]) (h' := h) 2 rfl trivial ?_
    refine v_icmp_gt C0 cokX5_canClean rfl 30 (by decide) hf (fun _ hf => ?_) (fun _ hf => ?_)
    · refine v_run C0 tbX5 cokX5_canClean (pc' := 31) (lv' := [(0, .ref a0), (1, .int x1)]) (st' := [.int (0 : Int32)]) (h' := h) 1 rfl trivial ?_
      obtain rfl := Option.some.inj hf
      exact v_zret C0 cokX5_canClean hr hlk rfl (Or.inl rfl)
    · refine v_run C0 tbX5 cokX5_canClean (pc' := 31) (lv' := [(0, .ref a0), (1, .int x1)]) (st' := [.int (1 : Int32)]) (h' := h) 2 rfl trivial ?_
      obtain rfl := Option.some.inj hf
      exact v_zret C0 cokX5_canClean hr hlk rfl (Or.inr rfl)
  · refine v_run C0 tbX5 cokX5_canClean (pc' := 31) (lv' := [(0, .ref a0), (1, .int x1)]) (st' := [.int (0 : Int32)]) (h' := h) 1 rfl trivial ?_
    obtain rfl := Option.some.inj hf
    exact v_zret C0 cokX5_canClean hr hlk rfl (Or.inl rfl)
-- BackByNoonOnMondayModel.clean(I)V
noncomputable def fX5_clean (σ : q_St) (h : q_Hp) (a0 : Nat) (x1 : Int32) : Option q_Hp := q_gu ((q_tag σ (q_ref σ a0 5) = 7)) (q_gu ((vp_in x1 (q_len σ (q_ref σ a0 5)))) (((fX5_cleansOf σ (q_si h (q_ref σ a0 5) (Int32.toNatClampNeg x1) (0 : Int32)) a0 x1).bind fun r2 => some (q_si (q_si h (q_ref σ a0 5) (Int32.toNatClampNeg x1) (0 : Int32)) a0 14 ((q_int (q_si h (q_ref σ a0 5) (Int32.toNatClampNeg x1) (0 : Int32)) a0 14) + r2)))))
def cdX5_clean : q_Cd := [(0, .aload_n 0), (1, .getfield 22), (4, .iload_n 1), (5, .iconst 0), (6, .iastore), (7, .aload_n 0), (8, .dup), (9, .getfield 127), (12, .aload_n 0), (13, .iload_n 1), (14, .invokevirtual 130), (17, .iadd), (18, .putfield 127), (21, .return_)]
set_option maxRecDepth 100000 in
theorem cokX5_clean : q_cok cX5_clean cdX5_clean := by unfold q_cok; decide +kernel
set_option maxRecDepth 100000 in
set_option maxHeartbeats 4000000 in
theorem ctX5_clean {l : Launch} {D : va_G} {cy : Nat → Nat} {b0 : Nat} {σ : q_St} {h : q_Hp} (a0 : Nat) (x1 : Int32) {h' : q_Hp} (ta0 : q_tag σ a0 = 6) (hf : fX5_clean σ h a0 x1 = some h') : q_M l yX5_clean cX5_clean 2 none 1 21 0 0 D cy b0 σ h [.ref a0, .int x1] none σ h' := by
  unfold fX5_clean at hf
  obtain ⟨k0, hf⟩ := q_gu_o hf
  refine q_enter (by decide) (Nat.le_of_ble_eq_true rfl) ?_
  intro p e s m args below meth c C0 hr hlk hnm
  replace C0 : VC p { frames := 1, cells := 0, slots := 0, locals := 21 } s m args meth c D cy b0 2 0 0 RX5 cX5_clean := C0
  obtain ⟨g1, hf⟩ := q_gu_o hf
  refine v_run C0 tbX5 cokX5_clean (pc' := 14) (lv' := [(0, .ref a0), (1, .int x1)]) (st' := [.int x1, .ref a0, .int (q_int (q_si h (q_ref σ a0 5) (Int32.toNatClampNeg x1) (0 : Int32)) a0 14), .ref a0]) (h' := (q_si h (q_ref σ a0 5) (Int32.toNatClampNeg x1) (0 : Int32))) 10 rfl ⟨⟨ta0, q_tn k0⟩, ⟨k0, g1⟩, ta0, trivial⟩ ?_
  obtain ⟨r2, e2, hf⟩ := q_bd hf
  refine v_callV C0 cokX5_clean rfl (rest := [.int (q_int (q_si h (q_ref σ a0 5) (Int32.toNatClampNeg x1) (0 : Int32)) a0 14), .ref a0]) (ctX5_cleansOf a0 x1 ta0 e2) calX5_cleansOf lkX5_130 inX5_cleansOf dnX5_cleansOf (ci := 5) ⟨rfl, by decide⟩ ta0 rfl rfl ⟨by decide, by decide⟩ (Nat.le_of_ble_eq_true rfl) (Nat.le_refl _) (Nat.le_refl _) ?_
  refine v_run C0 tbX5 cokX5_clean (pc' := 21) (lv' := [(0, .ref a0), (1, .int x1)]) (st' := []) (h' := (q_si (q_si h (q_ref σ a0 5) (Int32.toNatClampNeg x1) (0 : Int32)) a0 14 ((q_int (q_si h (q_ref σ a0 5) (Int32.toNatClampNeg x1) (0 : Int32)) a0 14) + r2))) 2 rfl ⟨ta0, trivial⟩ ?_
  obtain rfl := Option.some.inj hf
  exact v_vret C0 cokX5_clean hr hlk rfl
-- BackByNoonOnMondayModel.here()I
noncomputable def fX5_here (σ : q_St) (h : q_Hp) (a0 : Nat) : Option Int32 := q_gu ((q_tag σ (q_ref σ a0 19) = 7) ∧ (q_tag σ (q_ref σ a0 20) = 8)) (q_gu ((vp_in (q_int h a0 22) (q_len σ (q_ref σ a0 19)))) ((if (q_int h (q_ref σ a0 19) (Int32.toNatClampNeg (q_int h a0 22))) ≤ (q_int h a0 23) then some (-999 : Int32) else q_gu ((vp_in (((100 : Int32) * (q_int h a0 22)) + (q_int h a0 23)) (q_len σ (q_ref σ a0 20)))) (some (Int64.toInt32 (q_lng h (q_ref σ a0 20) (Int32.toNatClampNeg (((100 : Int32) * (q_int h a0 22)) + (q_int h a0 23)))))))))
def cdX5_here : q_Cd := [(0, .aload_n 0), (1, .getfield 133), (4, .aload_n 0), (5, .getfield 55), (8, .aload_n 0), (9, .getfield 136), (12, .iaload), (13, .if_icmp .ge 24), (16, .aload_n 0), (17, .getfield 58), (20, .bipush 100), (22, .aload_n 0), (23, .getfield 136), (26, .imul), (27, .aload_n 0), (28, .getfield 133), (31, .iadd), (32, .laload), (33, .l2i), (34, .goto 6), (37, .sipush (-999)), (40, .ireturn)]
set_option maxRecDepth 100000 in
theorem cokX5_here : q_cok cX5_here cdX5_here := by unfold q_cok; decide +kernel
set_option maxRecDepth 100000 in
set_option maxHeartbeats 4000000 in
theorem ctX5_here {l : Launch} {D : va_G} {cy : Nat → Nat} {b0 : Nat} {σ : q_St} {h : q_Hp} (a0 : Nat) {r : Int32} (ta0 : q_tag σ a0 = 6) (hf : fX5_here σ h a0 = some r) : q_M l yX5_here cX5_here 1 (some .int) 0 0 0 0 D cy b0 σ h [.ref a0] (some (.int r)) σ h := by
  unfold fX5_here at hf
  obtain ⟨⟨k0, k1⟩, hf⟩ := q_gu_o hf
  refine q_enter (by decide) (Nat.le_of_ble_eq_true rfl) ?_
  intro p e s m args below meth c C0 hr hlk hnm
  replace C0 : VC p { frames := 0, cells := 0, slots := 0, locals := 0 } s m args meth c D cy b0 1 0 0 RX5 cX5_here := C0
  obtain ⟨g1, hf⟩ := q_gu_o hf
  refine v_run C0 tbX5 cokX5_here (pc' := 13) (lv' := [(0, .ref a0)]) (st' := [.int (q_int h (q_ref σ a0 19) (Int32.toNatClampNeg (q_int h a0 22))), .int (q_int h a0 23)]) (h' := h) 7 rfl ⟨ta0, ⟨ta0, q_tn k0⟩, ta0, ⟨k0, g1⟩, trivial⟩ ?_
  refine v_icmp_ge C0 cokX5_here rfl 37 (by decide) hf (fun _ hf => ?_) (fun _ hf => ?_)
  · refine v_run C0 tbX5 cokX5_here (pc' := 40) (lv' := [(0, .ref a0)]) (st' := [.int (-999 : Int32)]) (h' := h) 1 rfl trivial ?_
    obtain rfl := Option.some.inj hf
    exact v_iret C0 cokX5_here hr hlk rfl
  · obtain ⟨g2, hf⟩ := q_gu_o hf
    refine v_run C0 tbX5 cokX5_here (pc' := 40) (lv' := [(0, .ref a0)]) (st' := [.int (Int64.toInt32 (q_lng h (q_ref σ a0 20) (Int32.toNatClampNeg (((100 : Int32) * (q_int h a0 22)) + (q_int h a0 23)))))]) (h' := h) 12 rfl ⟨⟨ta0, q_tn k1⟩, ta0, ta0, ⟨k1, g2⟩, trivial⟩ ?_
    obtain rfl := Option.some.inj hf
    exact v_iret C0 cokX5_here hr hlk rfl
-- BackByNoonOnMondayModel.readDigits(I)I
noncomputable def fX5_readDigits_83 (σ : q_St) (h : q_Hp) (a0 : Nat) (x1 : Int32) (x2 : Int32) (x3 : Int32) (s0 : Int32) (s1 : Int32) (s2 : Nat) : Option ((Int32 × Int32 × q_Hp) ⊕ (Int32 × q_Hp)) := q_gu ((q_tag σ s2 = 6)) (some (Sum.inl (x2, (x3 + (1 : Int32)), (q_si h s2 23 (s1 + s0)))))
noncomputable def fX5_readDigits_65 (σ : q_St) (h : q_Hp) (a0 : Nat) (x1 : Int32) (x3 : Int32) (s0 : Int32) : Option ((Int32 × Int32 × q_Hp) ⊕ (Int32 × q_Hp)) := (if (q_int h a0 24) = 0 then fX5_readDigits_83 σ h a0 x1 s0 x3 (1 : Int32) (q_int h a0 23) a0 else fX5_readDigits_83 σ h a0 x1 s0 x3 (0 : Int32) (q_int h a0 23) a0)
noncomputable def fX5_readDigits_39 (σ : q_St) (h : q_Hp) (a0 : Nat) (x1 : Int32) (x2 : Int32) (x3 : Int32) (s0 : Int32) (s1 : Nat) : Option ((Int32 × Int32 × q_Hp) ⊕ (Int32 × q_Hp)) := q_gu ((q_tag σ s1 = 6) ∧ ((s0 = 0 ∨ s0 = 1))) ((if (q_int (q_si h s1 24 s0) a0 24) = 0 then ((fX5_here σ (q_si h s1 24 s0) a0).bind fun r6 => fX5_readDigits_65 σ (q_si h s1 24 s0) a0 x1 x3 ((((10 : Int32) * x2) + r6) - (48 : Int32))) else fX5_readDigits_65 σ (q_si h s1 24 s0) a0 x1 x3 (0 : Int32)))
noncomputable def fX5_readDigits_34 (σ : q_St) (h : q_Hp) (a0 : Nat) (x1 : Int32) (x2 : Int32) (x3 : Int32) (s0 : Nat) : Option ((Int32 × Int32 × q_Hp) ⊕ (Int32 × q_Hp)) := fX5_readDigits_39 σ h a0 x1 x2 x3 (1 : Int32) s0
noncomputable def fX5_readDigits_4 (σ : q_St) (a0 : Nat) (x1 : Int32) (x2 : Int32) (x3 : Int32) (h : q_Hp) : Option ((Int32 × Int32 × q_Hp) ⊕ (Int32 × q_Hp)) := (if x1 ≤ x3 then some (Sum.inr (x2, h)) else (if (q_int h a0 24) = 0 then ((fX5_here σ h a0).bind fun r2 => ((fX5_in σ h (Int32.toInt64 r2) (48 : Int64) (57 : Int64)).bind fun r3 => (if r3 = 0 then fX5_readDigits_34 σ h a0 x1 x2 x3 a0 else fX5_readDigits_39 σ h a0 x1 x2 x3 (0 : Int32) a0))) else fX5_readDigits_34 σ h a0 x1 x2 x3 a0))
noncomputable def fX5_readDigits (σ : q_St) (h : q_Hp) (a0 : Nat) (x1 : Int32) : Option (Int32 × q_Hp) := (q_loop (fun s => fX5_readDigits_4 σ a0 x1 s.1 s.2.1 s.2.2) q_N ((0 : Int32), (0 : Int32), h)).bind fun o1 => some (o1.1, o1.2)
def cdX5_readDigits : q_Cd := [(0, .iconst 0), (1, .istore_n 2), (2, .iconst 0), (3, .istore_n 3), (4, .iload_n 3), (5, .iload_n 1), (6, .if_icmp .ge 87), (9, .aload_n 0), (10, .aload_n 0), (11, .getfield 139), (14, .ifCond .ne 20), (17, .aload_n 0), (18, .invokevirtual 143), (21, .i2l), (22, .ldc2_w 147), (25, .ldc2_w 149), (28, .invokestatic 96), (31, .ifCond .ne 7), (34, .iconst 1), (35, .goto 4), (38, .iconst 0), (39, .putfield 139), (42, .aload_n 0), (43, .getfield 139), (46, .ifCond .eq 7), (49, .iconst 0), (50, .goto 15), (53, .bipush 10), (55, .iload_n 2), (56, .imul), (57, .aload_n 0), (58, .invokevirtual 143), (61, .iadd), (62, .bipush 48), (64, .isub), (65, .istore_n 2), (66, .aload_n 0), (67, .dup), (68, .getfield 133), (71, .aload_n 0), (72, .getfield 139), (75, .ifCond .eq 7), (78, .iconst 0), (79, .goto 4), (82, .iconst 1), (83, .iadd), (84, .putfield 133), (87, .iinc 3 1), (90, .goto (-86)), (93, .iload_n 2), (94, .ireturn)]
set_option maxRecDepth 100000 in
theorem cokX5_readDigits : q_cok cX5_readDigits cdX5_readDigits := by unfold q_cok; decide +kernel
set_option maxRecDepth 100000 in
set_option maxHeartbeats 4000000 in
theorem ctX5_readDigits {l : Launch} {D : va_G} {cy : Nat → Nat} {b0 : Nat} {σ : q_St} {h : q_Hp} (a0 : Nat) (x1 : Int32) {r : Int32} {h' : q_Hp} (ta0 : q_tag σ a0 = 6) (hf : fX5_readDigits σ h a0 x1 = some (r, h')) : q_M l yX5_readDigits cX5_readDigits 4 (some .int) 1 25 0 0 D cy b0 σ h [.ref a0, .int x1] (some (.int r)) σ h' := by
  unfold fX5_readDigits at hf
  refine q_enter (by decide) (Nat.le_of_ble_eq_true rfl) ?_
  intro p e s m args below meth c C0 hr hlk hnm
  replace C0 : VC p { frames := 1, cells := 0, slots := 0, locals := 25 } s m args meth c D cy b0 4 0 0 RX5 cX5_readDigits := C0
  have n4 : ∀ (o : (Int32 × q_Hp)) (s1 : (Int32 × Int32 × q_Hp)), q_loop (fun s => fX5_readDigits_4 σ a0 x1 s.1 s.2.1 s.2.2) q_N s1 = some o → V p l e { frames := 1, cells := 0, slots := 0, locals := 25 } s m args below meth c (MQ below (q_Qc D cy b0 (some (.int r)) σ h') args s 0 0 (fun q => b0 ≤ q)) D cy b0 4 0 0 0 0 σ o.2 93 [(2, .int o.1)] [] → V p l e { frames := 1, cells := 0, slots := 0, locals := 25 } s m args below meth c (MQ below (q_Qc D cy b0 (some (.int r)) σ h') args s 0 0 (fun q => b0 ≤ q)) D cy b0 4 0 0 0 0 σ s1.2.2 4 [(0, .ref a0), (1, .int x1), (2, .int s1.1), (3, .int s1.2.1)] [] := by
    intro o s1 ho kx1
    refine q_loop_V (P := fun s0 => V p l e { frames := 1, cells := 0, slots := 0, locals := 25 } s m args below meth c (MQ below (q_Qc D cy b0 (some (.int r)) σ h') args s 0 0 (fun q => b0 ≤ q)) D cy b0 4 0 0 0 0 σ s0.2.2 4 [(0, .ref a0), (1, .int x1), (2, .int s0.1), (3, .int s0.2.1)] []) (o := o) ?_ q_N s1 ho
    intro s2 z1 hf kb1 kr1
    obtain ⟨x2, x3, h⟩ := s2
    replace hf : fX5_readDigits_4 σ a0 x1 x2 x3 h = some z1 := hf
    unfold fX5_readDigits_4 at hf
    show V p l e { frames := 1, cells := 0, slots := 0, locals := 25 } s m args below meth c (MQ below (q_Qc D cy b0 (some (.int r)) σ h') args s 0 0 (fun q => b0 ≤ q)) D cy b0 4 0 0 0 0 σ h 4 [(0, .ref a0), (1, .int x1), (2, .int x2), (3, .int x3)] []
    have n83 : ∀ (h : q_Hp) (x2 : Int32) (x3 : Int32) (s0 : Int32) (s1 : Int32) (s2 : Nat), fX5_readDigits_83 σ h a0 x1 x2 x3 s0 s1 s2 = some z1 → V p l e { frames := 1, cells := 0, slots := 0, locals := 25 } s m args below meth c (MQ below (q_Qc D cy b0 (some (.int r)) σ h') args s 0 0 (fun q => b0 ≤ q)) D cy b0 4 0 0 0 0 σ h 83 [(0, .ref a0), (1, .int x1), (2, .int x2), (3, .int x3)] [.int s0, .int s1, .ref s2] := by
      intro h x2 x3 s0 s1 s2 hf
      unfold fX5_readDigits_83 at hf
      obtain ⟨g7, hf⟩ := q_gu_o hf
      refine v_run C0 tbX5 cokX5_readDigits (pc' := 4) (lv' := [(3, .int (x3 + (1 : Int32))), (0, .ref a0), (1, .int x1), (2, .int x2)]) (st' := []) (h' := (q_si h s2 23 (s1 + s0))) 4 rfl ⟨g7, trivial⟩ ?_
      obtain rfl := Option.some.inj hf
      refine v_pick [1, 2, 3, 0] rfl ?_
      exact kb1 _ rfl
    have n65 : ∀ (h : q_Hp) (x3 : Int32) (s0 : Int32), fX5_readDigits_65 σ h a0 x1 x3 s0 = some z1 → V p l e { frames := 1, cells := 0, slots := 0, locals := 25 } s m args below meth c (MQ below (q_Qc D cy b0 (some (.int r)) σ h') args s 0 0 (fun q => b0 ≤ q)) D cy b0 4 0 0 0 0 σ h 65 [(0, .ref a0), (1, .int x1), (3, .int x3)] [.int s0] := by
      intro h x3 s0 hf
      unfold fX5_readDigits_65 at hf
      refine v_run C0 tbX5 cokX5_readDigits (pc' := 75) (lv' := [(2, .int s0), (0, .ref a0), (1, .int x1), (3, .int x3)]) (st' := [.int (q_int h a0 24), .int (q_int h a0 23), .ref a0]) (h' := h) 6 rfl ⟨ta0, ta0, trivial⟩ ?_
      refine v_if_eq C0 cokX5_readDigits rfl 82 (by decide) hf (fun _ hf => ?_) (fun _ hf => ?_)
      · refine v_run C0 tbX5 cokX5_readDigits (pc' := 83) (lv' := [(2, .int s0), (0, .ref a0), (1, .int x1), (3, .int x3)]) (st' := [.int (1 : Int32), .int (q_int h a0 23), .ref a0]) (h' := h) 1 rfl trivial ?_
        refine v_pick [1, 2, 0, 3] rfl ?_
        exact n83 h s0 x3 (1 : Int32) (q_int h a0 23) a0 hf
      · refine v_run C0 tbX5 cokX5_readDigits (pc' := 83) (lv' := [(2, .int s0), (0, .ref a0), (1, .int x1), (3, .int x3)]) (st' := [.int (0 : Int32), .int (q_int h a0 23), .ref a0]) (h' := h) 2 rfl trivial ?_
        refine v_pick [1, 2, 0, 3] rfl ?_
        exact n83 h s0 x3 (0 : Int32) (q_int h a0 23) a0 hf
    have n39 : ∀ (h : q_Hp) (x2 : Int32) (x3 : Int32) (s0 : Int32) (s1 : Nat), fX5_readDigits_39 σ h a0 x1 x2 x3 s0 s1 = some z1 → V p l e { frames := 1, cells := 0, slots := 0, locals := 25 } s m args below meth c (MQ below (q_Qc D cy b0 (some (.int r)) σ h') args s 0 0 (fun q => b0 ≤ q)) D cy b0 4 0 0 0 0 σ h 39 [(0, .ref a0), (1, .int x1), (2, .int x2), (3, .int x3)] [.int s0, .ref s1] := by
      intro h x2 x3 s0 s1 hf
      unfold fX5_readDigits_39 at hf
      obtain ⟨⟨g4, g5⟩, hf⟩ := q_gu_o hf
      refine v_run C0 tbX5 cokX5_readDigits (pc' := 46) (lv' := [(0, .ref a0), (1, .int x1), (2, .int x2), (3, .int x3)]) (st' := [.int (q_int (q_si h s1 24 s0) a0 24)]) (h' := (q_si h s1 24 s0)) 3 rfl ⟨⟨g4, g5⟩, ta0, trivial⟩ ?_
      refine v_if_eq C0 cokX5_readDigits rfl 53 (by decide) hf (fun _ hf => ?_) (fun _ hf => ?_)
      · refine v_run C0 tbX5 cokX5_readDigits (pc' := 58) (lv' := [(0, .ref a0), (1, .int x1), (2, .int x2), (3, .int x3)]) (st' := [.ref a0, .int ((10 : Int32) * x2)]) (h' := (q_si h s1 24 s0)) 4 rfl trivial ?_
        obtain ⟨r6, e6, hf⟩ := q_bd hf
        refine v_callV C0 cokX5_readDigits rfl (rest := [.int ((10 : Int32) * x2)]) (ctX5_here a0 ta0 e6) calX5_here lkX5_143 inX5_here dnX5_here (ci := 5) ⟨rfl, by decide⟩ ta0 rfl rfl ⟨by decide, by decide⟩ (Nat.le_of_ble_eq_true rfl) (Nat.le_refl _) (Nat.le_refl _) ?_
        refine v_run C0 tbX5 cokX5_readDigits (pc' := 65) (lv' := [(0, .ref a0), (1, .int x1), (2, .int x2), (3, .int x3)]) (st' := [.int ((((10 : Int32) * x2) + r6) - (48 : Int32))]) (h' := (q_si h s1 24 s0)) 3 rfl trivial ?_
        refine v_pick [0, 1, 3] rfl ?_
        exact n65 (q_si h s1 24 s0) x3 ((((10 : Int32) * x2) + r6) - (48 : Int32)) hf
      · refine v_run C0 tbX5 cokX5_readDigits (pc' := 65) (lv' := [(0, .ref a0), (1, .int x1), (2, .int x2), (3, .int x3)]) (st' := [.int (0 : Int32)]) (h' := (q_si h s1 24 s0)) 2 rfl trivial ?_
        refine v_pick [0, 1, 3] rfl ?_
        exact n65 (q_si h s1 24 s0) x3 (0 : Int32) hf
    have n34 : ∀ (h : q_Hp) (x2 : Int32) (x3 : Int32) (s0 : Nat), fX5_readDigits_34 σ h a0 x1 x2 x3 s0 = some z1 → V p l e { frames := 1, cells := 0, slots := 0, locals := 25 } s m args below meth c (MQ below (q_Qc D cy b0 (some (.int r)) σ h') args s 0 0 (fun q => b0 ≤ q)) D cy b0 4 0 0 0 0 σ h 34 [(0, .ref a0), (1, .int x1), (2, .int x2), (3, .int x3)] [.ref s0] := by
      intro h x2 x3 s0 hf
      unfold fX5_readDigits_34 at hf
      refine v_run C0 tbX5 cokX5_readDigits (pc' := 39) (lv' := [(0, .ref a0), (1, .int x1), (2, .int x2), (3, .int x3)]) (st' := [.int (1 : Int32), .ref s0]) (h' := h) 2 rfl trivial ?_
      refine v_pick [0, 1, 2, 3] rfl ?_
      exact n39 h x2 x3 (1 : Int32) s0 hf
    refine v_run C0 tbX5 cokX5_readDigits (pc' := 6) (lv' := [(0, .ref a0), (1, .int x1), (2, .int x2), (3, .int x3)]) (st' := [.int x1, .int x3]) (h' := h) 2 rfl trivial ?_
    refine v_icmp_ge C0 cokX5_readDigits rfl 93 (by decide) hf (fun _ hf => ?_) (fun _ hf => ?_)
    · obtain rfl := Option.some.inj hf
      refine v_pick [2] rfl ?_
      have hx := kr1 _ rfl
      subst hx
      exact kx1
    · refine v_run C0 tbX5 cokX5_readDigits (pc' := 14) (lv' := [(0, .ref a0), (1, .int x1), (2, .int x2), (3, .int x3)]) (st' := [.int (q_int h a0 24), .ref a0]) (h' := h) 3 rfl ⟨ta0, trivial⟩ ?_
      refine v_if_ne C0 cokX5_readDigits rfl 34 (by decide) hf (fun _ hf => ?_) (fun _ hf => ?_)
      · refine v_run C0 tbX5 cokX5_readDigits (pc' := 18) (lv' := [(0, .ref a0), (1, .int x1), (2, .int x2), (3, .int x3)]) (st' := [.ref a0, .ref a0]) (h' := h) 1 rfl trivial ?_
        obtain ⟨r2, e2, hf⟩ := q_bd hf
        refine v_callV C0 cokX5_readDigits rfl (rest := [.ref a0]) (ctX5_here a0 ta0 e2) calX5_here lkX5_143 inX5_here dnX5_here (ci := 5) ⟨rfl, by decide⟩ ta0 rfl rfl ⟨by decide, by decide⟩ (Nat.le_of_ble_eq_true rfl) (Nat.le_refl _) (Nat.le_refl _) ?_
        refine v_run C0 tbX5 cokX5_readDigits (pc' := 28) (lv' := [(0, .ref a0), (1, .int x1), (2, .int x2), (3, .int x3)]) (st' := [.long (57 : Int64), .long (48 : Int64), .long (Int32.toInt64 r2), .ref a0]) (h' := h) 3 rfl trivial ?_
        obtain ⟨r3, e3, hf⟩ := q_bd hf
        refine v_callS C0 cokX5_readDigits rfl (rest := [.ref a0]) (ctX5_in (Int32.toInt64 r2) (48 : Int64) (57 : Int64) e3) calX5_in lkX5_96 inX5_in dnX5_in rfl rfl ⟨by decide, by decide⟩ (Nat.le_of_ble_eq_true rfl) (Nat.le_refl _) (Nat.le_refl _) ?_
        refine v_if_ne C0 cokX5_readDigits rfl 38 (by decide) hf (fun _ hf => ?_) (fun _ hf => ?_)
        · refine v_pick [0, 1, 2, 3] rfl ?_
          exact n34 h x2 x3 a0 hf
        · refine v_run C0 tbX5 cokX5_readDigits (pc' := 39) (lv' := [(0, .ref a0), (1, .int x1), (2, .int x2), (3, .int x3)]) (st' := [.int (0 : Int32), .ref a0]) (h' := h) 1 rfl trivial ?_
          refine v_pick [0, 1, 2, 3] rfl ?_
          exact n39 h x2 x3 (0 : Int32) a0 hf
      · refine v_pick [0, 1, 2, 3] rfl ?_
        exact n34 h x2 x3 a0 hf
  refine v_run C0 tbX5 cokX5_readDigits (pc' := 4) (lv' := [(3, .int (0 : Int32)), (2, .int (0 : Int32)), (0, .ref a0), (1, .int x1)]) (st' := []) (h' := h) 4 rfl trivial ?_
  obtain ⟨o1, eo1, hf⟩ := q_bd hf
  refine v_pick [2, 3, 1, 0] rfl ?_
  refine n4 o1 ((0 : Int32), (0 : Int32), h) eo1 ?_
  refine v_run C0 tbX5 cokX5_readDigits (pc' := 94) (lv' := [(2, .int o1.1)]) (st' := [.int o1.1]) (h' := o1.2) 1 rfl trivial ?_
  obtain ⟨rfl, rfl⟩ := Prod.mk.inj (Option.some.inj hf)
  exact v_iret C0 cokX5_readDigits hr hlk rfl
-- BackByNoonOnMondayModel.readNumbers(II)V
noncomputable def fX5_readNumbers_102 (σ : q_St) (a0 : Nat) (x1 : Int32) (x2 : Int32) (x3 : Int32) (h : q_Hp) : Option ((Int32 × q_Hp) ⊕ q_Hp) := (if (5 : Int32) ≤ x3 then some (Sum.inr h) else (q_b2 (fX5_readDigits σ h a0 (1 : Int32)) fun r21 h21 => q_gu ((vp_in (x2 + x3) (q_len σ (q_ref σ a0 28)))) (some (Sum.inl ((x3 + (1 : Int32)), (q_si h21 (q_ref σ a0 28) (Int32.toNatClampNeg (x2 + x3)) r21))))))
noncomputable def fX5_readNumbers (σ : q_St) (h : q_Hp) (a0 : Nat) (x1 : Int32) (x2 : Int32) : Option q_Hp := q_gu ((q_tag σ (q_ref σ a0 28) = 7)) ((if x1 = (98 : Int32) then (q_b2 (fX5_readDigits σ h a0 (2 : Int32)) fun r1 h1 => q_gu ((vp_in x2 (q_len σ (q_ref σ a0 28)))) ((q_loop (fun s => fX5_readNumbers_102 σ a0 x1 x2 s.1 s.2) q_N ((1 : Int32), (q_si h1 (q_ref σ a0 28) (Int32.toNatClampNeg x2) r1))).bind fun o3 => some o3)) else (if x1 = (104 : Int32) then (q_b2 (fX5_readDigits σ h a0 (1 : Int32)) fun r5 h5 => q_gu ((vp_in x2 (q_len σ (q_ref σ a0 28)))) ((q_b2 (fX5_readDigits σ (q_si h5 (q_ref σ a0 28) (Int32.toNatClampNeg x2) r5) a0 (1 : Int32)) fun r7 h7 => q_gu ((vp_in (x2 + (1 : Int32)) (q_len σ (q_ref σ a0 28)))) (some (q_si h7 (q_ref σ a0 28) (Int32.toNatClampNeg (x2 + (1 : Int32))) r7))))) else (if x1 = (115 : Int32) then (q_b2 (fX5_readDigits σ h a0 (1 : Int32)) fun r10 h10 => q_gu ((vp_in x2 (q_len σ (q_ref σ a0 28)))) ((q_b2 (fX5_readDigits σ (q_si h10 (q_ref σ a0 28) (Int32.toNatClampNeg x2) r10) a0 (1 : Int32)) fun r12 h12 => q_gu ((vp_in (x2 + (1 : Int32)) (q_len σ (q_ref σ a0 28)))) ((q_b2 (fX5_readDigits σ (q_si h12 (q_ref σ a0 28) (Int32.toNatClampNeg (x2 + (1 : Int32))) r12) a0 (2 : Int32)) fun r14 h14 => q_gu ((vp_in (x2 + (2 : Int32)) (q_len σ (q_ref σ a0 28)))) ((q_b2 (fX5_readDigits σ (q_si h14 (q_ref σ a0 28) (Int32.toNatClampNeg (x2 + (2 : Int32))) r14) a0 (2 : Int32)) fun r16 h16 => q_gu ((vp_in (x2 + (3 : Int32)) (q_len σ (q_ref σ a0 28)))) (some (q_si h16 (q_ref σ a0 28) (Int32.toNatClampNeg (x2 + (3 : Int32))) r16))))))))) else (q_b2 (fX5_readDigits σ h a0 (1 : Int32)) fun r19 h19 => q_gu ((vp_in x2 (q_len σ (q_ref σ a0 28)))) (some (q_si h19 (q_ref σ a0 28) (Int32.toNatClampNeg x2) r19)))))))
def cdX5_readNumbers : q_Cd := [(0, .iload_n 1), (36, .aload_n 0), (37, .getfield 68), (40, .iload_n 2), (41, .aload_n 0), (42, .iconst 1), (43, .invokevirtual 151), (46, .iastore), (47, .aload_n 0), (48, .getfield 68), (51, .iload_n 2), (52, .iconst 1), (53, .iadd), (54, .aload_n 0), (55, .iconst 1), (56, .invokevirtual 151), (59, .iastore), (60, .aload_n 0), (61, .getfield 68), (64, .iload_n 2), (65, .iconst 2), (66, .iadd), (67, .aload_n 0), (68, .iconst 2), (69, .invokevirtual 151), (72, .iastore), (73, .aload_n 0), (74, .getfield 68), (77, .iload_n 2), (78, .iconst 3), (79, .iadd), (80, .aload_n 0), (81, .iconst 2), (82, .invokevirtual 151), (85, .iastore), (86, .goto 81), (89, .aload_n 0), (90, .getfield 68), (93, .iload_n 2), (94, .aload_n 0), (95, .iconst 2), (96, .invokevirtual 151), (99, .iastore), (100, .iconst 1), (101, .istore_n 3), (102, .iload_n 3), (103, .iconst 5), (104, .if_icmp .ge 22), (107, .aload_n 0), (108, .getfield 68), (111, .iload_n 2), (112, .iload_n 3), (113, .iadd), (114, .aload_n 0), (115, .iconst 1), (116, .invokevirtual 151), (119, .iastore), (120, .iinc 3 1), (123, .goto (-21)), (126, .goto 41), (129, .aload_n 0), (130, .getfield 68), (133, .iload_n 2), (134, .aload_n 0), (135, .iconst 1), (136, .invokevirtual 151), (139, .iastore), (140, .aload_n 0), (141, .getfield 68), (144, .iload_n 2), (145, .iconst 1), (146, .iadd), (147, .aload_n 0), (148, .iconst 1), (149, .invokevirtual 151), (152, .iastore), (153, .goto 14), (156, .aload_n 0), (157, .getfield 68), (160, .iload_n 2), (161, .aload_n 0), (162, .iconst 1), (163, .invokevirtual 151), (166, .iastore), (167, .return_)]
set_option maxRecDepth 100000 in
theorem cokX5_readNumbers : q_cok cX5_readNumbers cdX5_readNumbers := by unfold q_cok; decide +kernel
theorem dswX5_readNumbers_1 : decode cX5_readNumbers 1 = .ok (.lookupswitch 155 #[(98, 88), (104, 128), (115, 35)], 35) := by decide +kernel
set_option maxRecDepth 100000 in
set_option maxHeartbeats 4000000 in
theorem ctX5_readNumbers {l : Launch} {D : va_G} {cy : Nat → Nat} {b0 : Nat} {σ : q_St} {h : q_Hp} (a0 : Nat) (x1 : Int32) (x2 : Int32) {h' : q_Hp} (ta0 : q_tag σ a0 = 6) (hf : fX5_readNumbers σ h a0 x1 x2 = some h') : q_M l yX5_readNumbers cX5_readNumbers 4 none 2 48 0 0 D cy b0 σ h [.ref a0, .int x1, .int x2] none σ h' := by
  unfold fX5_readNumbers at hf
  obtain ⟨k0, hf⟩ := q_gu_o hf
  refine q_enter (by decide) (Nat.le_of_ble_eq_true rfl) ?_
  intro p e s m args below meth c C0 hr hlk hnm
  replace C0 : VC p { frames := 2, cells := 0, slots := 0, locals := 48 } s m args meth c D cy b0 4 0 0 RX5 cX5_readNumbers := C0
  have n102 : ∀ (o : q_Hp) (s1 : (Int32 × q_Hp)), q_loop (fun s => fX5_readNumbers_102 σ a0 x1 x2 s.1 s.2) q_N s1 = some o → V p l e { frames := 2, cells := 0, slots := 0, locals := 48 } s m args below meth c (MQ below (q_Qc D cy b0 none σ h') args s 0 0 (fun q => b0 ≤ q)) D cy b0 4 0 0 0 0 σ o 126 [] [] → V p l e { frames := 2, cells := 0, slots := 0, locals := 48 } s m args below meth c (MQ below (q_Qc D cy b0 none σ h') args s 0 0 (fun q => b0 ≤ q)) D cy b0 4 0 0 0 0 σ s1.2 102 [(0, .ref a0), (2, .int x2), (3, .int s1.1)] [] := by
    intro o s1 ho kx1
    refine q_loop_V (P := fun s0 => V p l e { frames := 2, cells := 0, slots := 0, locals := 48 } s m args below meth c (MQ below (q_Qc D cy b0 none σ h') args s 0 0 (fun q => b0 ≤ q)) D cy b0 4 0 0 0 0 σ s0.2 102 [(0, .ref a0), (2, .int x2), (3, .int s0.1)] []) (o := o) ?_ q_N s1 ho
    intro s2 z1 hf kb1 kr1
    obtain ⟨x3, h⟩ := s2
    replace hf : fX5_readNumbers_102 σ a0 x1 x2 x3 h = some z1 := hf
    unfold fX5_readNumbers_102 at hf
    show V p l e { frames := 2, cells := 0, slots := 0, locals := 48 } s m args below meth c (MQ below (q_Qc D cy b0 none σ h') args s 0 0 (fun q => b0 ≤ q)) D cy b0 4 0 0 0 0 σ h 102 [(0, .ref a0), (2, .int x2), (3, .int x3)] []
    refine v_run C0 tbX5 cokX5_readNumbers (pc' := 104) (lv' := [(0, .ref a0), (2, .int x2), (3, .int x3)]) (st' := [.int (5 : Int32), .int x3]) (h' := h) 2 rfl trivial ?_
    refine v_icmp_ge C0 cokX5_readNumbers rfl 126 (by decide) hf (fun _ hf => ?_) (fun _ hf => ?_)
    · obtain rfl := Option.some.inj hf
      refine v_pick [] rfl ?_
      have hx := kr1 _ rfl
      subst hx
      exact kx1
    · refine v_run C0 tbX5 cokX5_readNumbers (pc' := 116) (lv' := [(0, .ref a0), (2, .int x2), (3, .int x3)]) (st' := [.int (1 : Int32), .ref a0, .int (x2 + x3), .ref (q_ref σ a0 28)]) (h' := h) 7 rfl ⟨⟨ta0, q_tn k0⟩, trivial⟩ ?_
      obtain ⟨r21, h21, e21, hf⟩ := q_bd2 hf
      refine v_callV C0 cokX5_readNumbers rfl (rest := [.int (x2 + x3), .ref (q_ref σ a0 28)]) (ctX5_readDigits a0 (1 : Int32) ta0 e21) calX5_readDigits lkX5_151 inX5_readDigits dnX5_readDigits (ci := 5) ⟨rfl, by decide⟩ ta0 rfl rfl ⟨by decide, by decide⟩ (Nat.le_of_ble_eq_true rfl) (Nat.le_refl _) (Nat.le_refl _) ?_
      obtain ⟨g22, hf⟩ := q_gu_o hf
      refine v_run C0 tbX5 cokX5_readNumbers (pc' := 102) (lv' := [(3, .int (x3 + (1 : Int32))), (0, .ref a0), (2, .int x2)]) (st' := []) (h' := (q_si h21 (q_ref σ a0 28) (Int32.toNatClampNeg (x2 + x3)) r21)) 3 rfl ⟨⟨k0, g22⟩, trivial⟩ ?_
      obtain rfl := Option.some.inj hf
      refine v_pick [1, 2, 0] rfl ?_
      exact kb1 _ rfl
  refine v_run C0 tbX5 cokX5_readNumbers (pc' := 1) (lv' := [(0, .ref a0), (1, .int x1), (2, .int x2)]) (st' := [.int x1]) (h' := h) 1 rfl trivial ?_
  rcases q_ite hf with ⟨d4, hf⟩ | ⟨d4, hf⟩
  · refine v_lkI C0 dswX5_readNumbers_1 d4 89 (by decide +kernel) (by decide +kernel) ?_
    refine v_run C0 tbX5 cokX5_readNumbers (pc' := 96) (lv' := [(0, .ref a0), (1, .int x1), (2, .int x2)]) (st' := [.int (2 : Int32), .ref a0, .int x2, .ref (q_ref σ a0 28)]) (h' := h) 5 rfl ⟨⟨ta0, q_tn k0⟩, trivial⟩ ?_
    obtain ⟨r1, h1, e1, hf⟩ := q_bd2 hf
    refine v_callV C0 cokX5_readNumbers rfl (rest := [.int x2, .ref (q_ref σ a0 28)]) (ctX5_readDigits a0 (2 : Int32) ta0 e1) calX5_readDigits lkX5_151 inX5_readDigits dnX5_readDigits (ci := 5) ⟨rfl, by decide⟩ ta0 rfl rfl ⟨by decide, by decide⟩ (Nat.le_of_ble_eq_true rfl) (Nat.le_refl _) (Nat.le_refl _) ?_
    obtain ⟨g2, hf⟩ := q_gu_o hf
    refine v_run C0 tbX5 cokX5_readNumbers (pc' := 102) (lv' := [(3, .int (1 : Int32)), (0, .ref a0), (1, .int x1), (2, .int x2)]) (st' := []) (h' := (q_si h1 (q_ref σ a0 28) (Int32.toNatClampNeg x2) r1)) 3 rfl ⟨⟨k0, g2⟩, trivial⟩ ?_
    obtain ⟨o3, eo3, hf⟩ := q_bd hf
    refine v_pick [1, 3, 0] rfl ?_
    refine n102 o3 ((1 : Int32), (q_si h1 (q_ref σ a0 28) (Int32.toNatClampNeg x2) r1)) eo3 ?_
    refine v_run C0 tbX5 cokX5_readNumbers (pc' := 167) (lv' := []) (st' := []) (h' := o3) 1 rfl trivial ?_
    obtain rfl := Option.some.inj hf
    exact v_vret C0 cokX5_readNumbers hr hlk rfl
  · rcases q_ite hf with ⟨d9, hf⟩ | ⟨d9, hf⟩
    · refine v_lkI C0 dswX5_readNumbers_1 d9 129 (by decide +kernel) (by decide +kernel) ?_
      refine v_run C0 tbX5 cokX5_readNumbers (pc' := 136) (lv' := [(0, .ref a0), (1, .int x1), (2, .int x2)]) (st' := [.int (1 : Int32), .ref a0, .int x2, .ref (q_ref σ a0 28)]) (h' := h) 5 rfl ⟨⟨ta0, q_tn k0⟩, trivial⟩ ?_
      obtain ⟨r5, h5, e5, hf⟩ := q_bd2 hf
      refine v_callV C0 cokX5_readNumbers rfl (rest := [.int x2, .ref (q_ref σ a0 28)]) (ctX5_readDigits a0 (1 : Int32) ta0 e5) calX5_readDigits lkX5_151 inX5_readDigits dnX5_readDigits (ci := 5) ⟨rfl, by decide⟩ ta0 rfl rfl ⟨by decide, by decide⟩ (Nat.le_of_ble_eq_true rfl) (Nat.le_refl _) (Nat.le_refl _) ?_
      obtain ⟨g6, hf⟩ := q_gu_o hf
      refine v_run C0 tbX5 cokX5_readNumbers (pc' := 149) (lv' := [(0, .ref a0), (1, .int x1), (2, .int x2)]) (st' := [.int (1 : Int32), .ref a0, .int (x2 + (1 : Int32)), .ref (q_ref σ a0 28)]) (h' := (q_si h5 (q_ref σ a0 28) (Int32.toNatClampNeg x2) r5)) 8 rfl ⟨⟨k0, g6⟩, ⟨ta0, q_tn k0⟩, trivial⟩ ?_
      obtain ⟨r7, h7, e7, hf⟩ := q_bd2 hf
      refine v_callV C0 cokX5_readNumbers rfl (rest := [.int (x2 + (1 : Int32)), .ref (q_ref σ a0 28)]) (ctX5_readDigits a0 (1 : Int32) ta0 e7) calX5_readDigits lkX5_151 inX5_readDigits dnX5_readDigits (ci := 5) ⟨rfl, by decide⟩ ta0 rfl rfl ⟨by decide, by decide⟩ (Nat.le_of_ble_eq_true rfl) (Nat.le_refl _) (Nat.le_refl _) ?_
      obtain ⟨g8, hf⟩ := q_gu_o hf
      refine v_run C0 tbX5 cokX5_readNumbers (pc' := 167) (lv' := [(0, .ref a0), (1, .int x1), (2, .int x2)]) (st' := []) (h' := (q_si h7 (q_ref σ a0 28) (Int32.toNatClampNeg (x2 + (1 : Int32))) r7)) 2 rfl ⟨⟨k0, g8⟩, trivial⟩ ?_
      obtain rfl := Option.some.inj hf
      exact v_vret C0 cokX5_readNumbers hr hlk rfl
    · rcases q_ite hf with ⟨d18, hf⟩ | ⟨d18, hf⟩
      · refine v_lkI C0 dswX5_readNumbers_1 d18 36 (by decide +kernel) (by decide +kernel) ?_
        refine v_run C0 tbX5 cokX5_readNumbers (pc' := 43) (lv' := [(0, .ref a0), (1, .int x1), (2, .int x2)]) (st' := [.int (1 : Int32), .ref a0, .int x2, .ref (q_ref σ a0 28)]) (h' := h) 5 rfl ⟨⟨ta0, q_tn k0⟩, trivial⟩ ?_
        obtain ⟨r10, h10, e10, hf⟩ := q_bd2 hf
        refine v_callV C0 cokX5_readNumbers rfl (rest := [.int x2, .ref (q_ref σ a0 28)]) (ctX5_readDigits a0 (1 : Int32) ta0 e10) calX5_readDigits lkX5_151 inX5_readDigits dnX5_readDigits (ci := 5) ⟨rfl, by decide⟩ ta0 rfl rfl ⟨by decide, by decide⟩ (Nat.le_of_ble_eq_true rfl) (Nat.le_refl _) (Nat.le_refl _) ?_
        obtain ⟨g11, hf⟩ := q_gu_o hf
        refine v_run C0 tbX5 cokX5_readNumbers (pc' := 56) (lv' := [(0, .ref a0), (1, .int x1), (2, .int x2)]) (st' := [.int (1 : Int32), .ref a0, .int (x2 + (1 : Int32)), .ref (q_ref σ a0 28)]) (h' := (q_si h10 (q_ref σ a0 28) (Int32.toNatClampNeg x2) r10)) 8 rfl ⟨⟨k0, g11⟩, ⟨ta0, q_tn k0⟩, trivial⟩ ?_
        obtain ⟨r12, h12, e12, hf⟩ := q_bd2 hf
        refine v_callV C0 cokX5_readNumbers rfl (rest := [.int (x2 + (1 : Int32)), .ref (q_ref σ a0 28)]) (ctX5_readDigits a0 (1 : Int32) ta0 e12) calX5_readDigits lkX5_151 inX5_readDigits dnX5_readDigits (ci := 5) ⟨rfl, by decide⟩ ta0 rfl rfl ⟨by decide, by decide⟩ (Nat.le_of_ble_eq_true rfl) (Nat.le_refl _) (Nat.le_refl _) ?_
        obtain ⟨g13, hf⟩ := q_gu_o hf
        refine v_run C0 tbX5 cokX5_readNumbers (pc' := 69) (lv' := [(0, .ref a0), (1, .int x1), (2, .int x2)]) (st' := [.int (2 : Int32), .ref a0, .int (x2 + (2 : Int32)), .ref (q_ref σ a0 28)]) (h' := (q_si h12 (q_ref σ a0 28) (Int32.toNatClampNeg (x2 + (1 : Int32))) r12)) 8 rfl ⟨⟨k0, g13⟩, ⟨ta0, q_tn k0⟩, trivial⟩ ?_
        obtain ⟨r14, h14, e14, hf⟩ := q_bd2 hf
        refine v_callV C0 cokX5_readNumbers rfl (rest := [.int (x2 + (2 : Int32)), .ref (q_ref σ a0 28)]) (ctX5_readDigits a0 (2 : Int32) ta0 e14) calX5_readDigits lkX5_151 inX5_readDigits dnX5_readDigits (ci := 5) ⟨rfl, by decide⟩ ta0 rfl rfl ⟨by decide, by decide⟩ (Nat.le_of_ble_eq_true rfl) (Nat.le_refl _) (Nat.le_refl _) ?_
        obtain ⟨g15, hf⟩ := q_gu_o hf
        refine v_run C0 tbX5 cokX5_readNumbers (pc' := 82) (lv' := [(0, .ref a0), (1, .int x1), (2, .int x2)]) (st' := [.int (2 : Int32), .ref a0, .int (x2 + (3 : Int32)), .ref (q_ref σ a0 28)]) (h' := (q_si h14 (q_ref σ a0 28) (Int32.toNatClampNeg (x2 + (2 : Int32))) r14)) 8 rfl ⟨⟨k0, g15⟩, ⟨ta0, q_tn k0⟩, trivial⟩ ?_
        obtain ⟨r16, h16, e16, hf⟩ := q_bd2 hf
        refine v_callV C0 cokX5_readNumbers rfl (rest := [.int (x2 + (3 : Int32)), .ref (q_ref σ a0 28)]) (ctX5_readDigits a0 (2 : Int32) ta0 e16) calX5_readDigits lkX5_151 inX5_readDigits dnX5_readDigits (ci := 5) ⟨rfl, by decide⟩ ta0 rfl rfl ⟨by decide, by decide⟩ (Nat.le_of_ble_eq_true rfl) (Nat.le_refl _) (Nat.le_refl _) ?_
        obtain ⟨g17, hf⟩ := q_gu_o hf
        refine v_run C0 tbX5 cokX5_readNumbers (pc' := 167) (lv' := [(0, .ref a0), (1, .int x1), (2, .int x2)]) (st' := []) (h' := (q_si h16 (q_ref σ a0 28) (Int32.toNatClampNeg (x2 + (3 : Int32))) r16)) 2 rfl ⟨⟨k0, g17⟩, trivial⟩ ?_
        obtain rfl := Option.some.inj hf
        exact v_vret C0 cokX5_readNumbers hr hlk rfl
      · refine v_lkO C0 dswX5_readNumbers_1 156 [98, 104, 115] rfl (by decide +kernel) (by decide +kernel) (fun k hk hx => ?_) ?_
        · simp only [List.mem_cons, List.not_mem_nil, or_false] at hk
          rcases hk with rfl | rfl | rfl
          · exact d4 (Int32.toInt_inj.mp hx)
          · exact d9 (Int32.toInt_inj.mp hx)
          · exact d18 (Int32.toInt_inj.mp hx)
        · refine v_run C0 tbX5 cokX5_readNumbers (pc' := 163) (lv' := [(0, .ref a0), (1, .int x1), (2, .int x2)]) (st' := [.int (1 : Int32), .ref a0, .int x2, .ref (q_ref σ a0 28)]) (h' := h) 5 rfl ⟨⟨ta0, q_tn k0⟩, trivial⟩ ?_
          obtain ⟨r19, h19, e19, hf⟩ := q_bd2 hf
          refine v_callV C0 cokX5_readNumbers rfl (rest := [.int x2, .ref (q_ref σ a0 28)]) (ctX5_readDigits a0 (1 : Int32) ta0 e19) calX5_readDigits lkX5_151 inX5_readDigits dnX5_readDigits (ci := 5) ⟨rfl, by decide⟩ ta0 rfl rfl ⟨by decide, by decide⟩ (Nat.le_of_ble_eq_true rfl) (Nat.le_refl _) (Nat.le_refl _) ?_
          obtain ⟨g20, hf⟩ := q_gu_o hf
          refine v_run C0 tbX5 cokX5_readNumbers (pc' := 167) (lv' := [(0, .ref a0), (1, .int x1), (2, .int x2)]) (st' := []) (h' := (q_si h19 (q_ref σ a0 28) (Int32.toNatClampNeg x2) r19)) 1 rfl ⟨⟨k0, g20⟩, trivial⟩ ?_
          obtain rfl := Option.some.inj hf
          exact v_vret C0 cokX5_readNumbers hr hlk rfl
-- BackByNoonOnMondayModel.readStatement()V
noncomputable def fX5_readStatement_151 (σ : q_St) (h : q_Hp) (a0 : Nat) (s0 : Int32) (s1 : Int32) (s2 : Nat) : Option q_Hp := q_gu ((q_tag σ s2 = 6)) (some (q_si (q_si h s2 23 (s1 + s0)) a0 25 ((q_int (q_si h s2 23 (s1 + s0)) a0 25) + (1 : Int32))))
noncomputable def fX5_readStatement_131 (σ : q_St) (h : q_Hp) (a0 : Nat) (s0 : Int32) (s1 : Nat) : Option q_Hp := q_gu ((q_tag σ s1 = 6) ∧ ((s0 = 0 ∨ s0 = 1))) ((if (q_int (q_si h s1 24 s0) a0 24) = 0 then fX5_readStatement_151 σ (q_si h s1 24 s0) a0 (1 : Int32) (q_int (q_si h s1 24 s0) a0 23) a0 else fX5_readStatement_151 σ (q_si h s1 24 s0) a0 (0 : Int32) (q_int (q_si h s1 24 s0) a0 23) a0))
noncomputable def fX5_readStatement_126 (σ : q_St) (h : q_Hp) (a0 : Nat) (s0 : Nat) : Option q_Hp := fX5_readStatement_131 σ h a0 (1 : Int32) s0
noncomputable def fX5_readStatement_109 (σ : q_St) (h : q_Hp) (a0 : Nat) : Option q_Hp := (if (q_int h a0 24) = 0 then ((fX5_here σ h a0).bind fun r8 => (if r8 = (59 : Int32) then fX5_readStatement_131 σ h a0 (0 : Int32) a0 else fX5_readStatement_126 σ h a0 a0)) else fX5_readStatement_126 σ h a0 a0)
noncomputable def fX5_readStatement_90 (σ : q_St) (h : q_Hp) (a0 : Nat) (x1 : Int32) (x2 : Int32) (s0 : Int32) (s1 : Int32) (s2 : Nat) : Option q_Hp := q_gu ((q_tag σ s2 = 6)) ((if (q_int (q_si h s2 23 (s1 + s0)) a0 24) = 0 then ((fX5_readNumbers σ (q_si h s2 23 (s1 + s0)) a0 x2 ((5 : Int32) * x1)).bind fun h7 => fX5_readStatement_109 σ h7 a0) else fX5_readStatement_109 σ (q_si h s2 23 (s1 + s0)) a0))
noncomputable def fX5_readStatement_70 (σ : q_St) (h : q_Hp) (a0 : Nat) (x1 : Int32) (x2 : Int32) (s0 : Int32) (s1 : Nat) : Option q_Hp := q_gu ((q_tag σ s1 = 6) ∧ ((s0 = 0 ∨ s0 = 1))) ((if (q_int (q_si h s1 24 s0) a0 24) = 0 then fX5_readStatement_90 σ (q_si h s1 24 s0) a0 x1 x2 (1 : Int32) (q_int (q_si h s1 24 s0) a0 23) a0 else fX5_readStatement_90 σ (q_si h s1 24 s0) a0 x1 x2 (0 : Int32) (q_int (q_si h s1 24 s0) a0 23) a0))
noncomputable def fX5_readStatement_65 (σ : q_St) (h : q_Hp) (a0 : Nat) (x1 : Int32) (x2 : Int32) (s0 : Nat) : Option q_Hp := fX5_readStatement_70 σ h a0 x1 x2 (1 : Int32) s0
noncomputable def fX5_readStatement_69 (σ : q_St) (h : q_Hp) (a0 : Nat) (x1 : Int32) (x2 : Int32) (s0 : Nat) : Option q_Hp := fX5_readStatement_70 σ h a0 x1 x2 (0 : Int32) s0
noncomputable def fX5_readStatement (σ : q_St) (h : q_Hp) (a0 : Nat) : Option q_Hp := q_gu ((q_tag σ (q_ref σ a0 26) = 7) ∧ (q_tag σ (q_ref σ a0 27) = 7)) (((fX5_here σ h a0).bind fun r1 => q_gu ((vp_in (q_int h a0 25) (q_len σ (q_ref σ a0 26))) ∧ (vp_in (q_int h a0 25) (q_len σ (q_ref σ a0 27)))) ((if (q_int (q_si (q_si h (q_ref σ a0 26) (Int32.toNatClampNeg (q_int h a0 25)) (q_int h a0 23)) (q_ref σ a0 27) (Int32.toNatClampNeg (q_int h a0 25)) r1) a0 24) = 0 then (if r1 = (115 : Int32) then fX5_readStatement_69 σ (q_si (q_si h (q_ref σ a0 26) (Int32.toNatClampNeg (q_int h a0 25)) (q_int h a0 23)) (q_ref σ a0 27) (Int32.toNatClampNeg (q_int h a0 25)) r1) a0 (q_int h a0 25) r1 a0 else (if r1 = (98 : Int32) then fX5_readStatement_69 σ (q_si (q_si h (q_ref σ a0 26) (Int32.toNatClampNeg (q_int h a0 25)) (q_int h a0 23)) (q_ref σ a0 27) (Int32.toNatClampNeg (q_int h a0 25)) r1) a0 (q_int h a0 25) r1 a0 else (if r1 = (104 : Int32) then fX5_readStatement_69 σ (q_si (q_si h (q_ref σ a0 26) (Int32.toNatClampNeg (q_int h a0 25)) (q_int h a0 23)) (q_ref σ a0 27) (Int32.toNatClampNeg (q_int h a0 25)) r1) a0 (q_int h a0 25) r1 a0 else (if r1 = (114 : Int32) then fX5_readStatement_69 σ (q_si (q_si h (q_ref σ a0 26) (Int32.toNatClampNeg (q_int h a0 25)) (q_int h a0 23)) (q_ref σ a0 27) (Int32.toNatClampNeg (q_int h a0 25)) r1) a0 (q_int h a0 25) r1 a0 else (if r1 = (99 : Int32) then fX5_readStatement_69 σ (q_si (q_si h (q_ref σ a0 26) (Int32.toNatClampNeg (q_int h a0 25)) (q_int h a0 23)) (q_ref σ a0 27) (Int32.toNatClampNeg (q_int h a0 25)) r1) a0 (q_int h a0 25) r1 a0 else fX5_readStatement_65 σ (q_si (q_si h (q_ref σ a0 26) (Int32.toNatClampNeg (q_int h a0 25)) (q_int h a0 23)) (q_ref σ a0 27) (Int32.toNatClampNeg (q_int h a0 25)) r1) a0 (q_int h a0 25) r1 a0))))) else fX5_readStatement_65 σ (q_si (q_si h (q_ref σ a0 26) (Int32.toNatClampNeg (q_int h a0 25)) (q_int h a0 23)) (q_ref σ a0 27) (Int32.toNatClampNeg (q_int h a0 25)) r1) a0 (q_int h a0 25) r1 a0))))
def cdX5_readStatement : q_Cd := [(0, .aload_n 0), (1, .getfield 154), (4, .istore_n 1), (5, .aload_n 0), (6, .invokevirtual 143), (9, .istore_n 2), (10, .aload_n 0), (11, .getfield 62), (14, .iload_n 1), (15, .aload_n 0), (16, .getfield 133), (19, .iastore), (20, .aload_n 0), (21, .getfield 65), (24, .iload_n 1), (25, .iload_n 2), (26, .iastore), (27, .aload_n 0), (28, .aload_n 0), (29, .getfield 139), (32, .ifCond .ne 33), (35, .iload_n 2), (36, .bipush 115), (38, .if_icmp .eq 31), (41, .iload_n 2), (42, .bipush 98), (44, .if_icmp .eq 25), (47, .iload_n 2), (48, .bipush 104), (50, .if_icmp .eq 19), (53, .iload_n 2), (54, .bipush 114), (56, .if_icmp .eq 13), (59, .iload_n 2), (60, .bipush 99), (62, .if_icmp .eq 7), (65, .iconst 1), (66, .goto 4), (69, .iconst 0), (70, .putfield 139), (73, .aload_n 0), (74, .dup), (75, .getfield 133), (78, .aload_n 0), (79, .getfield 139), (82, .ifCond .eq 7), (85, .iconst 0), (86, .goto 4), (89, .iconst 1), (90, .iadd), (91, .putfield 133), (94, .aload_n 0), (95, .getfield 139), (98, .ifCond .ne 11), (101, .aload_n 0), (102, .iload_n 2), (103, .iconst 5), (104, .iload_n 1), (105, .imul), (106, .invokevirtual 157), (109, .aload_n 0), (110, .aload_n 0), (111, .getfield 139), (114, .ifCond .ne 12), (117, .aload_n 0), (118, .invokevirtual 143), (121, .bipush 59), (123, .if_icmp .eq 7), (126, .iconst 1), (127, .goto 4), (130, .iconst 0), (131, .putfield 139), (134, .aload_n 0), (135, .dup), (136, .getfield 133), (139, .aload_n 0), (140, .getfield 139), (143, .ifCond .eq 7), (146, .iconst 0), (147, .goto 4), (150, .iconst 1), (151, .iadd), (152, .putfield 133), (155, .aload_n 0), (156, .dup), (157, .getfield 154), (160, .iconst 1), (161, .iadd), (162, .putfield 154), (165, .return_)]
set_option maxRecDepth 100000 in
theorem cokX5_readStatement : q_cok cX5_readStatement cdX5_readStatement := by unfold q_cok; decide +kernel
set_option maxRecDepth 100000 in
set_option maxHeartbeats 4000000 in
theorem ctX5_readStatement {l : Launch} {D : va_G} {cy : Nat → Nat} {b0 : Nat} {σ : q_St} {h : q_Hp} (a0 : Nat) {h' : q_Hp} (ta0 : q_tag σ a0 = 6) (hf : fX5_readStatement σ h a0 = some h') : q_M l yX5_readStatement cX5_readStatement 3 none 3 71 0 0 D cy b0 σ h [.ref a0] none σ h' := by
  unfold fX5_readStatement at hf
  obtain ⟨⟨k0, k1⟩, hf⟩ := q_gu_o hf
  refine q_enter (by decide) (Nat.le_of_ble_eq_true rfl) ?_
  intro p e s m args below meth c C0 hr hlk hnm
  replace C0 : VC p { frames := 3, cells := 0, slots := 0, locals := 71 } s m args meth c D cy b0 3 0 0 RX5 cX5_readStatement := C0
  have n151 : ∀ (h : q_Hp) (s0 : Int32) (s1 : Int32) (s2 : Nat), fX5_readStatement_151 σ h a0 s0 s1 s2 = some h' → V p l e { frames := 3, cells := 0, slots := 0, locals := 71 } s m args below meth c (MQ below (q_Qc D cy b0 none σ h') args s 0 0 (fun q => b0 ≤ q)) D cy b0 3 0 0 0 0 σ h 151 [(0, .ref a0)] [.int s0, .int s1, .ref s2] := by
    intro h s0 s1 s2 hf
    unfold fX5_readStatement_151 at hf
    obtain ⟨g11, hf⟩ := q_gu_o hf
    refine v_run C0 tbX5 cokX5_readStatement (pc' := 165) (lv' := [(0, .ref a0)]) (st' := []) (h' := (q_si (q_si h s2 23 (s1 + s0)) a0 25 ((q_int (q_si h s2 23 (s1 + s0)) a0 25) + (1 : Int32)))) 8 rfl ⟨g11, ta0, ta0, trivial⟩ ?_
    obtain rfl := Option.some.inj hf
    exact v_vret C0 cokX5_readStatement hr hlk rfl
  have n131 : ∀ (h : q_Hp) (s0 : Int32) (s1 : Nat), fX5_readStatement_131 σ h a0 s0 s1 = some h' → V p l e { frames := 3, cells := 0, slots := 0, locals := 71 } s m args below meth c (MQ below (q_Qc D cy b0 none σ h') args s 0 0 (fun q => b0 ≤ q)) D cy b0 3 0 0 0 0 σ h 131 [(0, .ref a0)] [.int s0, .ref s1] := by
    intro h s0 s1 hf
    unfold fX5_readStatement_131 at hf
    obtain ⟨⟨g9, g10⟩, hf⟩ := q_gu_o hf
    refine v_run C0 tbX5 cokX5_readStatement (pc' := 143) (lv' := [(0, .ref a0)]) (st' := [.int (q_int (q_si h s1 24 s0) a0 24), .int (q_int (q_si h s1 24 s0) a0 23), .ref a0]) (h' := (q_si h s1 24 s0)) 6 rfl ⟨⟨g9, g10⟩, ta0, ta0, trivial⟩ ?_
    refine v_if_eq C0 cokX5_readStatement rfl 150 (by decide) hf (fun _ hf => ?_) (fun _ hf => ?_)
    · refine v_run C0 tbX5 cokX5_readStatement (pc' := 151) (lv' := [(0, .ref a0)]) (st' := [.int (1 : Int32), .int (q_int (q_si h s1 24 s0) a0 23), .ref a0]) (h' := (q_si h s1 24 s0)) 1 rfl trivial ?_
      refine v_pick [0] rfl ?_
      exact n151 (q_si h s1 24 s0) (1 : Int32) (q_int (q_si h s1 24 s0) a0 23) a0 hf
    · refine v_run C0 tbX5 cokX5_readStatement (pc' := 151) (lv' := [(0, .ref a0)]) (st' := [.int (0 : Int32), .int (q_int (q_si h s1 24 s0) a0 23), .ref a0]) (h' := (q_si h s1 24 s0)) 2 rfl trivial ?_
      refine v_pick [0] rfl ?_
      exact n151 (q_si h s1 24 s0) (0 : Int32) (q_int (q_si h s1 24 s0) a0 23) a0 hf
  have n126 : ∀ (h : q_Hp) (s0 : Nat), fX5_readStatement_126 σ h a0 s0 = some h' → V p l e { frames := 3, cells := 0, slots := 0, locals := 71 } s m args below meth c (MQ below (q_Qc D cy b0 none σ h') args s 0 0 (fun q => b0 ≤ q)) D cy b0 3 0 0 0 0 σ h 126 [(0, .ref a0)] [.ref s0] := by
    intro h s0 hf
    unfold fX5_readStatement_126 at hf
    refine v_run C0 tbX5 cokX5_readStatement (pc' := 131) (lv' := [(0, .ref a0)]) (st' := [.int (1 : Int32), .ref s0]) (h' := h) 2 rfl trivial ?_
    refine v_pick [0] rfl ?_
    exact n131 h (1 : Int32) s0 hf
  have n109 : ∀ (h : q_Hp), fX5_readStatement_109 σ h a0 = some h' → V p l e { frames := 3, cells := 0, slots := 0, locals := 71 } s m args below meth c (MQ below (q_Qc D cy b0 none σ h') args s 0 0 (fun q => b0 ≤ q)) D cy b0 3 0 0 0 0 σ h 109 [(0, .ref a0)] [] := by
    intro h hf
    unfold fX5_readStatement_109 at hf
    refine v_run C0 tbX5 cokX5_readStatement (pc' := 114) (lv' := [(0, .ref a0)]) (st' := [.int (q_int h a0 24), .ref a0]) (h' := h) 3 rfl ⟨ta0, trivial⟩ ?_
    refine v_if_ne C0 cokX5_readStatement rfl 126 (by decide) hf (fun _ hf => ?_) (fun _ hf => ?_)
    · refine v_run C0 tbX5 cokX5_readStatement (pc' := 118) (lv' := [(0, .ref a0)]) (st' := [.ref a0, .ref a0]) (h' := h) 1 rfl trivial ?_
      obtain ⟨r8, e8, hf⟩ := q_bd hf
      refine v_callV C0 cokX5_readStatement rfl (rest := [.ref a0]) (ctX5_here a0 ta0 e8) calX5_here lkX5_143 inX5_here dnX5_here (ci := 5) ⟨rfl, by decide⟩ ta0 rfl rfl ⟨by decide, by decide⟩ (Nat.le_of_ble_eq_true rfl) (Nat.le_refl _) (Nat.le_refl _) ?_
      refine v_run C0 tbX5 cokX5_readStatement (pc' := 123) (lv' := [(0, .ref a0)]) (st' := [.int (59 : Int32), .int r8, .ref a0]) (h' := h) 1 rfl trivial ?_
      refine v_icmp_eq C0 cokX5_readStatement rfl 130 (by decide) hf (fun _ hf => ?_) (fun _ hf => ?_)
      · refine v_run C0 tbX5 cokX5_readStatement (pc' := 131) (lv' := [(0, .ref a0)]) (st' := [.int (0 : Int32), .ref a0]) (h' := h) 1 rfl trivial ?_
        refine v_pick [0] rfl ?_
        exact n131 h (0 : Int32) a0 hf
      · refine v_pick [0] rfl ?_
        exact n126 h a0 hf
    · refine v_pick [0] rfl ?_
      exact n126 h a0 hf
  have n90 : ∀ (h : q_Hp) (x1 : Int32) (x2 : Int32) (s0 : Int32) (s1 : Int32) (s2 : Nat), fX5_readStatement_90 σ h a0 x1 x2 s0 s1 s2 = some h' → V p l e { frames := 3, cells := 0, slots := 0, locals := 71 } s m args below meth c (MQ below (q_Qc D cy b0 none σ h') args s 0 0 (fun q => b0 ≤ q)) D cy b0 3 0 0 0 0 σ h 90 [(0, .ref a0), (1, .int x1), (2, .int x2)] [.int s0, .int s1, .ref s2] := by
    intro h x1 x2 s0 s1 s2 hf
    unfold fX5_readStatement_90 at hf
    obtain ⟨g6, hf⟩ := q_gu_o hf
    refine v_run C0 tbX5 cokX5_readStatement (pc' := 98) (lv' := [(0, .ref a0), (1, .int x1), (2, .int x2)]) (st' := [.int (q_int (q_si h s2 23 (s1 + s0)) a0 24)]) (h' := (q_si h s2 23 (s1 + s0))) 4 rfl ⟨g6, ta0, trivial⟩ ?_
    refine v_if_ne C0 cokX5_readStatement rfl 109 (by decide) hf (fun _ hf => ?_) (fun _ hf => ?_)
    · refine v_run C0 tbX5 cokX5_readStatement (pc' := 106) (lv' := [(0, .ref a0), (1, .int x1), (2, .int x2)]) (st' := [.int ((5 : Int32) * x1), .int x2, .ref a0]) (h' := (q_si h s2 23 (s1 + s0))) 5 rfl trivial ?_
      obtain ⟨h7, e7, hf⟩ := q_bd hf
      refine v_callV C0 cokX5_readStatement rfl (rest := []) (ctX5_readNumbers a0 x2 ((5 : Int32) * x1) ta0 e7) calX5_readNumbers lkX5_157 inX5_readNumbers dnX5_readNumbers (ci := 5) ⟨rfl, by decide⟩ ta0 rfl rfl ⟨by decide, by decide⟩ (Nat.le_of_ble_eq_true rfl) (Nat.le_refl _) (Nat.le_refl _) ?_
      refine v_pick [0] rfl ?_
      exact n109 h7 hf
    · refine v_pick [0] rfl ?_
      exact n109 (q_si h s2 23 (s1 + s0)) hf
  have n70 : ∀ (h : q_Hp) (x1 : Int32) (x2 : Int32) (s0 : Int32) (s1 : Nat), fX5_readStatement_70 σ h a0 x1 x2 s0 s1 = some h' → V p l e { frames := 3, cells := 0, slots := 0, locals := 71 } s m args below meth c (MQ below (q_Qc D cy b0 none σ h') args s 0 0 (fun q => b0 ≤ q)) D cy b0 3 0 0 0 0 σ h 70 [(0, .ref a0), (1, .int x1), (2, .int x2)] [.int s0, .ref s1] := by
    intro h x1 x2 s0 s1 hf
    unfold fX5_readStatement_70 at hf
    obtain ⟨⟨g4, g5⟩, hf⟩ := q_gu_o hf
    refine v_run C0 tbX5 cokX5_readStatement (pc' := 82) (lv' := [(0, .ref a0), (1, .int x1), (2, .int x2)]) (st' := [.int (q_int (q_si h s1 24 s0) a0 24), .int (q_int (q_si h s1 24 s0) a0 23), .ref a0]) (h' := (q_si h s1 24 s0)) 6 rfl ⟨⟨g4, g5⟩, ta0, ta0, trivial⟩ ?_
    refine v_if_eq C0 cokX5_readStatement rfl 89 (by decide) hf (fun _ hf => ?_) (fun _ hf => ?_)
    · refine v_run C0 tbX5 cokX5_readStatement (pc' := 90) (lv' := [(0, .ref a0), (1, .int x1), (2, .int x2)]) (st' := [.int (1 : Int32), .int (q_int (q_si h s1 24 s0) a0 23), .ref a0]) (h' := (q_si h s1 24 s0)) 1 rfl trivial ?_
      refine v_pick [0, 1, 2] rfl ?_
      exact n90 (q_si h s1 24 s0) x1 x2 (1 : Int32) (q_int (q_si h s1 24 s0) a0 23) a0 hf
    · refine v_run C0 tbX5 cokX5_readStatement (pc' := 90) (lv' := [(0, .ref a0), (1, .int x1), (2, .int x2)]) (st' := [.int (0 : Int32), .int (q_int (q_si h s1 24 s0) a0 23), .ref a0]) (h' := (q_si h s1 24 s0)) 2 rfl trivial ?_
      refine v_pick [0, 1, 2] rfl ?_
      exact n90 (q_si h s1 24 s0) x1 x2 (0 : Int32) (q_int (q_si h s1 24 s0) a0 23) a0 hf
  have n65 : ∀ (h : q_Hp) (x1 : Int32) (x2 : Int32) (s0 : Nat), fX5_readStatement_65 σ h a0 x1 x2 s0 = some h' → V p l e { frames := 3, cells := 0, slots := 0, locals := 71 } s m args below meth c (MQ below (q_Qc D cy b0 none σ h') args s 0 0 (fun q => b0 ≤ q)) D cy b0 3 0 0 0 0 σ h 65 [(0, .ref a0), (1, .int x1), (2, .int x2)] [.ref s0] := by
    intro h x1 x2 s0 hf
    unfold fX5_readStatement_65 at hf
    refine v_run C0 tbX5 cokX5_readStatement (pc' := 70) (lv' := [(0, .ref a0), (1, .int x1), (2, .int x2)]) (st' := [.int (1 : Int32), .ref s0]) (h' := h) 2 rfl trivial ?_
    refine v_pick [0, 1, 2] rfl ?_
    exact n70 h x1 x2 (1 : Int32) s0 hf
  have n69 : ∀ (h : q_Hp) (x1 : Int32) (x2 : Int32) (s0 : Nat), fX5_readStatement_69 σ h a0 x1 x2 s0 = some h' → V p l e { frames := 3, cells := 0, slots := 0, locals := 71 } s m args below meth c (MQ below (q_Qc D cy b0 none σ h') args s 0 0 (fun q => b0 ≤ q)) D cy b0 3 0 0 0 0 σ h 69 [(0, .ref a0), (1, .int x1), (2, .int x2)] [.ref s0] := by
    intro h x1 x2 s0 hf
    unfold fX5_readStatement_69 at hf
    refine v_run C0 tbX5 cokX5_readStatement (pc' := 70) (lv' := [(0, .ref a0), (1, .int x1), (2, .int x2)]) (st' := [.int (0 : Int32), .ref s0]) (h' := h) 1 rfl trivial ?_
    refine v_pick [0, 1, 2] rfl ?_
    exact n70 h x1 x2 (0 : Int32) s0 hf
  refine v_run C0 tbX5 cokX5_readStatement (pc' := 6) (lv' := [(1, .int (q_int h a0 25)), (0, .ref a0)]) (st' := [.ref a0]) (h' := h) 4 rfl ⟨ta0, trivial⟩ ?_
  obtain ⟨r1, e1, hf⟩ := q_bd hf
  refine v_callV C0 cokX5_readStatement rfl (rest := []) (ctX5_here a0 ta0 e1) calX5_here lkX5_143 inX5_here dnX5_here (ci := 5) ⟨rfl, by decide⟩ ta0 rfl rfl ⟨by decide, by decide⟩ (Nat.le_of_ble_eq_true rfl) (Nat.le_refl _) (Nat.le_refl _) ?_
  obtain ⟨⟨g2, g3⟩, hf⟩ := q_gu_o hf
  refine v_run C0 tbX5 cokX5_readStatement (pc' := 32) (lv' := [(2, .int r1), (1, .int (q_int h a0 25)), (0, .ref a0)]) (st' := [.int (q_int (q_si (q_si h (q_ref σ a0 26) (Int32.toNatClampNeg (q_int h a0 25)) (q_int h a0 23)) (q_ref σ a0 27) (Int32.toNatClampNeg (q_int h a0 25)) r1) a0 24), .ref a0]) (h' := (q_si (q_si h (q_ref σ a0 26) (Int32.toNatClampNeg (q_int h a0 25)) (q_int h a0 23)) (q_ref σ a0 27) (Int32.toNatClampNeg (q_int h a0 25)) r1)) 15 rfl ⟨⟨ta0, q_tn k0⟩, ta0, ⟨k0, g2⟩, ⟨ta0, q_tn k1⟩, ⟨k1, g3⟩, ta0, trivial⟩ ?_
  refine v_if_ne C0 cokX5_readStatement rfl 65 (by decide) hf (fun _ hf => ?_) (fun _ hf => ?_)
  · refine v_run C0 tbX5 cokX5_readStatement (pc' := 38) (lv' := [(2, .int r1), (1, .int (q_int h a0 25)), (0, .ref a0)]) (st' := [.int (115 : Int32), .int r1, .ref a0]) (h' := (q_si (q_si h (q_ref σ a0 26) (Int32.toNatClampNeg (q_int h a0 25)) (q_int h a0 23)) (q_ref σ a0 27) (Int32.toNatClampNeg (q_int h a0 25)) r1)) 2 rfl trivial ?_
    refine v_icmp_eq C0 cokX5_readStatement rfl 69 (by decide) hf (fun _ hf => ?_) (fun _ hf => ?_)
    · refine v_pick [2, 1, 0] rfl ?_
      exact n69 (q_si (q_si h (q_ref σ a0 26) (Int32.toNatClampNeg (q_int h a0 25)) (q_int h a0 23)) (q_ref σ a0 27) (Int32.toNatClampNeg (q_int h a0 25)) r1) (q_int h a0 25) r1 a0 hf
    · refine v_run C0 tbX5 cokX5_readStatement (pc' := 44) (lv' := [(2, .int r1), (1, .int (q_int h a0 25)), (0, .ref a0)]) (st' := [.int (98 : Int32), .int r1, .ref a0]) (h' := (q_si (q_si h (q_ref σ a0 26) (Int32.toNatClampNeg (q_int h a0 25)) (q_int h a0 23)) (q_ref σ a0 27) (Int32.toNatClampNeg (q_int h a0 25)) r1)) 2 rfl trivial ?_
      refine v_icmp_eq C0 cokX5_readStatement rfl 69 (by decide) hf (fun _ hf => ?_) (fun _ hf => ?_)
      · refine v_pick [2, 1, 0] rfl ?_
        exact n69 (q_si (q_si h (q_ref σ a0 26) (Int32.toNatClampNeg (q_int h a0 25)) (q_int h a0 23)) (q_ref σ a0 27) (Int32.toNatClampNeg (q_int h a0 25)) r1) (q_int h a0 25) r1 a0 hf
      · refine v_run C0 tbX5 cokX5_readStatement (pc' := 50) (lv' := [(2, .int r1), (1, .int (q_int h a0 25)), (0, .ref a0)]) (st' := [.int (104 : Int32), .int r1, .ref a0]) (h' := (q_si (q_si h (q_ref σ a0 26) (Int32.toNatClampNeg (q_int h a0 25)) (q_int h a0 23)) (q_ref σ a0 27) (Int32.toNatClampNeg (q_int h a0 25)) r1)) 2 rfl trivial ?_
        refine v_icmp_eq C0 cokX5_readStatement rfl 69 (by decide) hf (fun _ hf => ?_) (fun _ hf => ?_)
        · refine v_pick [2, 1, 0] rfl ?_
          exact n69 (q_si (q_si h (q_ref σ a0 26) (Int32.toNatClampNeg (q_int h a0 25)) (q_int h a0 23)) (q_ref σ a0 27) (Int32.toNatClampNeg (q_int h a0 25)) r1) (q_int h a0 25) r1 a0 hf
        · refine v_run C0 tbX5 cokX5_readStatement (pc' := 56) (lv' := [(2, .int r1), (1, .int (q_int h a0 25)), (0, .ref a0)]) (st' := [.int (114 : Int32), .int r1, .ref a0]) (h' := (q_si (q_si h (q_ref σ a0 26) (Int32.toNatClampNeg (q_int h a0 25)) (q_int h a0 23)) (q_ref σ a0 27) (Int32.toNatClampNeg (q_int h a0 25)) r1)) 2 rfl trivial ?_
          refine v_icmp_eq C0 cokX5_readStatement rfl 69 (by decide) hf (fun _ hf => ?_) (fun _ hf => ?_)
          · refine v_pick [2, 1, 0] rfl ?_
            exact n69 (q_si (q_si h (q_ref σ a0 26) (Int32.toNatClampNeg (q_int h a0 25)) (q_int h a0 23)) (q_ref σ a0 27) (Int32.toNatClampNeg (q_int h a0 25)) r1) (q_int h a0 25) r1 a0 hf
          · refine v_run C0 tbX5 cokX5_readStatement (pc' := 62) (lv' := [(2, .int r1), (1, .int (q_int h a0 25)), (0, .ref a0)]) (st' := [.int (99 : Int32), .int r1, .ref a0]) (h' := (q_si (q_si h (q_ref σ a0 26) (Int32.toNatClampNeg (q_int h a0 25)) (q_int h a0 23)) (q_ref σ a0 27) (Int32.toNatClampNeg (q_int h a0 25)) r1)) 2 rfl trivial ?_
            refine v_icmp_eq C0 cokX5_readStatement rfl 69 (by decide) hf (fun _ hf => ?_) (fun _ hf => ?_)
            · refine v_pick [2, 1, 0] rfl ?_
              exact n69 (q_si (q_si h (q_ref σ a0 26) (Int32.toNatClampNeg (q_int h a0 25)) (q_int h a0 23)) (q_ref σ a0 27) (Int32.toNatClampNeg (q_int h a0 25)) r1) (q_int h a0 25) r1 a0 hf
            · refine v_pick [2, 1, 0] rfl ?_
              exact n65 (q_si (q_si h (q_ref σ a0 26) (Int32.toNatClampNeg (q_int h a0 25)) (q_int h a0 23)) (q_ref σ a0 27) (Int32.toNatClampNeg (q_int h a0 25)) r1) (q_int h a0 25) r1 a0 hf
  · refine v_pick [2, 1, 0] rfl ?_
    exact n65 (q_si (q_si h (q_ref σ a0 26) (Int32.toNatClampNeg (q_int h a0 25)) (q_int h a0 23)) (q_ref σ a0 27) (Int32.toNatClampNeg (q_int h a0 25)) r1) (q_int h a0 25) r1 a0 hf
-- BackByNoonOnMondayModel.suitComes(IIII)Z
noncomputable def fX5_suitComes_26 (σ : q_St) (h : q_Hp) (a0 : Nat) (x1 : Int32) (x2 : Int32) (x3 : Int32) (x4 : Int32) (s0 : Int32) : Option (Int32 × q_Hp) := (if s0 = 0 then q_gu ((s0 = 0 ∨ s0 = 1)) (some (s0, h)) else q_gu ((vp_in (q_int h a0 0) (q_len σ (q_ref σ a0 1))) ∧ (vp_in (q_int (q_si h (q_ref σ a0 1) (Int32.toNatClampNeg (q_int h a0 0)) x1) a0 0) (q_len σ (q_ref σ a0 2))) ∧ (vp_in (q_int (q_si (q_si h (q_ref σ a0 1) (Int32.toNatClampNeg (q_int h a0 0)) x1) (q_ref σ a0 2) (Int32.toNatClampNeg (q_int (q_si h (q_ref σ a0 1) (Int32.toNatClampNeg (q_int h a0 0)) x1) a0 0)) x2) a0 0) (q_len σ (q_ref σ a0 3))) ∧ (vp_in (q_int (q_si (q_si (q_si h (q_ref σ a0 1) (Int32.toNatClampNeg (q_int h a0 0)) x1) (q_ref σ a0 2) (Int32.toNatClampNeg (q_int (q_si h (q_ref σ a0 1) (Int32.toNatClampNeg (q_int h a0 0)) x1) a0 0)) x2) (q_ref σ a0 3) (Int32.toNatClampNeg (q_int (q_si (q_si h (q_ref σ a0 1) (Int32.toNatClampNeg (q_int h a0 0)) x1) (q_ref σ a0 2) (Int32.toNatClampNeg (q_int (q_si h (q_ref σ a0 1) (Int32.toNatClampNeg (q_int h a0 0)) x1) a0 0)) x2) a0 0)) x3) a0 0) (q_len σ (q_ref σ a0 4))) ∧ (vp_in (q_int (q_si (q_si (q_si (q_si h (q_ref σ a0 1) (Int32.toNatClampNeg (q_int h a0 0)) x1) (q_ref σ a0 2) (Int32.toNatClampNeg (q_int (q_si h (q_ref σ a0 1) (Int32.toNatClampNeg (q_int h a0 0)) x1) a0 0)) x2) (q_ref σ a0 3) (Int32.toNatClampNeg (q_int (q_si (q_si h (q_ref σ a0 1) (Int32.toNatClampNeg (q_int h a0 0)) x1) (q_ref σ a0 2) (Int32.toNatClampNeg (q_int (q_si h (q_ref σ a0 1) (Int32.toNatClampNeg (q_int h a0 0)) x1) a0 0)) x2) a0 0)) x3) (q_ref σ a0 4) (Int32.toNatClampNeg (q_int (q_si (q_si (q_si h (q_ref σ a0 1) (Int32.toNatClampNeg (q_int h a0 0)) x1) (q_ref σ a0 2) (Int32.toNatClampNeg (q_int (q_si h (q_ref σ a0 1) (Int32.toNatClampNeg (q_int h a0 0)) x1) a0 0)) x2) (q_ref σ a0 3) (Int32.toNatClampNeg (q_int (q_si (q_si h (q_ref σ a0 1) (Int32.toNatClampNeg (q_int h a0 0)) x1) (q_ref σ a0 2) (Int32.toNatClampNeg (q_int (q_si h (q_ref σ a0 1) (Int32.toNatClampNeg (q_int h a0 0)) x1) a0 0)) x2) a0 0)) x3) a0 0)) x4) a0 0) (q_len σ (q_ref σ a0 5)))) (q_gu ((s0 = 0 ∨ s0 = 1)) (some (s0, (q_si (q_si (q_si (q_si (q_si (q_si h (q_ref σ a0 1) (Int32.toNatClampNeg (q_int h a0 0)) x1) (q_ref σ a0 2) (Int32.toNatClampNeg (q_int (q_si h (q_ref σ a0 1) (Int32.toNatClampNeg (q_int h a0 0)) x1) a0 0)) x2) (q_ref σ a0 3) (Int32.toNatClampNeg (q_int (q_si (q_si h (q_ref σ a0 1) (Int32.toNatClampNeg (q_int h a0 0)) x1) (q_ref σ a0 2) (Int32.toNatClampNeg (q_int (q_si h (q_ref σ a0 1) (Int32.toNatClampNeg (q_int h a0 0)) x1) a0 0)) x2) a0 0)) x3) (q_ref σ a0 4) (Int32.toNatClampNeg (q_int (q_si (q_si (q_si h (q_ref σ a0 1) (Int32.toNatClampNeg (q_int h a0 0)) x1) (q_ref σ a0 2) (Int32.toNatClampNeg (q_int (q_si h (q_ref σ a0 1) (Int32.toNatClampNeg (q_int h a0 0)) x1) a0 0)) x2) (q_ref σ a0 3) (Int32.toNatClampNeg (q_int (q_si (q_si h (q_ref σ a0 1) (Int32.toNatClampNeg (q_int h a0 0)) x1) (q_ref σ a0 2) (Int32.toNatClampNeg (q_int (q_si h (q_ref σ a0 1) (Int32.toNatClampNeg (q_int h a0 0)) x1) a0 0)) x2) a0 0)) x3) a0 0)) x4) (q_ref σ a0 5) (Int32.toNatClampNeg (q_int (q_si (q_si (q_si (q_si h (q_ref σ a0 1) (Int32.toNatClampNeg (q_int h a0 0)) x1) (q_ref σ a0 2) (Int32.toNatClampNeg (q_int (q_si h (q_ref σ a0 1) (Int32.toNatClampNeg (q_int h a0 0)) x1) a0 0)) x2) (q_ref σ a0 3) (Int32.toNatClampNeg (q_int (q_si (q_si h (q_ref σ a0 1) (Int32.toNatClampNeg (q_int h a0 0)) x1) (q_ref σ a0 2) (Int32.toNatClampNeg (q_int (q_si h (q_ref σ a0 1) (Int32.toNatClampNeg (q_int h a0 0)) x1) a0 0)) x2) a0 0)) x3) (q_ref σ a0 4) (Int32.toNatClampNeg (q_int (q_si (q_si (q_si h (q_ref σ a0 1) (Int32.toNatClampNeg (q_int h a0 0)) x1) (q_ref σ a0 2) (Int32.toNatClampNeg (q_int (q_si h (q_ref σ a0 1) (Int32.toNatClampNeg (q_int h a0 0)) x1) a0 0)) x2) (q_ref σ a0 3) (Int32.toNatClampNeg (q_int (q_si (q_si h (q_ref σ a0 1) (Int32.toNatClampNeg (q_int h a0 0)) x1) (q_ref σ a0 2) (Int32.toNatClampNeg (q_int (q_si h (q_ref σ a0 1) (Int32.toNatClampNeg (q_int h a0 0)) x1) a0 0)) x2) a0 0)) x3) a0 0)) x4) a0 0)) (0 : Int32)) a0 0 ((q_int (q_si (q_si (q_si (q_si (q_si h (q_ref σ a0 1) (Int32.toNatClampNeg (q_int h a0 0)) x1) (q_ref σ a0 2) (Int32.toNatClampNeg (q_int (q_si h (q_ref σ a0 1) (Int32.toNatClampNeg (q_int h a0 0)) x1) a0 0)) x2) (q_ref σ a0 3) (Int32.toNatClampNeg (q_int (q_si (q_si h (q_ref σ a0 1) (Int32.toNatClampNeg (q_int h a0 0)) x1) (q_ref σ a0 2) (Int32.toNatClampNeg (q_int (q_si h (q_ref σ a0 1) (Int32.toNatClampNeg (q_int h a0 0)) x1) a0 0)) x2) a0 0)) x3) (q_ref σ a0 4) (Int32.toNatClampNeg (q_int (q_si (q_si (q_si h (q_ref σ a0 1) (Int32.toNatClampNeg (q_int h a0 0)) x1) (q_ref σ a0 2) (Int32.toNatClampNeg (q_int (q_si h (q_ref σ a0 1) (Int32.toNatClampNeg (q_int h a0 0)) x1) a0 0)) x2) (q_ref σ a0 3) (Int32.toNatClampNeg (q_int (q_si (q_si h (q_ref σ a0 1) (Int32.toNatClampNeg (q_int h a0 0)) x1) (q_ref σ a0 2) (Int32.toNatClampNeg (q_int (q_si h (q_ref σ a0 1) (Int32.toNatClampNeg (q_int h a0 0)) x1) a0 0)) x2) a0 0)) x3) a0 0)) x4) (q_ref σ a0 5) (Int32.toNatClampNeg (q_int (q_si (q_si (q_si (q_si h (q_ref σ a0 1) (Int32.toNatClampNeg (q_int h a0 0)) x1) (q_ref σ a0 2) (Int32.toNatClampNeg (q_int (q_si h (q_ref σ a0 1) (Int32.toNatClampNeg (q_int h a0 0)) x1) a0 0)) x2) (q_ref σ a0 3) (Int32.toNatClampNeg (q_int (q_si (q_si h (q_ref σ a0 1) (Int32.toNatClampNeg (q_int h a0 0)) x1) (q_ref σ a0 2) (Int32.toNatClampNeg (q_int (q_si h (q_ref σ a0 1) (Int32.toNatClampNeg (q_int h a0 0)) x1) a0 0)) x2) a0 0)) x3) (q_ref σ a0 4) (Int32.toNatClampNeg (q_int (q_si (q_si (q_si h (q_ref σ a0 1) (Int32.toNatClampNeg (q_int h a0 0)) x1) (q_ref σ a0 2) (Int32.toNatClampNeg (q_int (q_si h (q_ref σ a0 1) (Int32.toNatClampNeg (q_int h a0 0)) x1) a0 0)) x2) (q_ref σ a0 3) (Int32.toNatClampNeg (q_int (q_si (q_si h (q_ref σ a0 1) (Int32.toNatClampNeg (q_int h a0 0)) x1) (q_ref σ a0 2) (Int32.toNatClampNeg (q_int (q_si h (q_ref σ a0 1) (Int32.toNatClampNeg (q_int h a0 0)) x1) a0 0)) x2) a0 0)) x3) a0 0)) x4) a0 0)) (0 : Int32)) a0 0) + (1 : Int32)))))))
noncomputable def fX5_suitComes_25 (σ : q_St) (h : q_Hp) (a0 : Nat) (x1 : Int32) (x2 : Int32) (x3 : Int32) (x4 : Int32) : Option (Int32 × q_Hp) := fX5_suitComes_26 σ h a0 x1 x2 x3 x4 (0 : Int32)
noncomputable def fX5_suitComes (σ : q_St) (h : q_Hp) (a0 : Nat) (x1 : Int32) (x2 : Int32) (x3 : Int32) (x4 : Int32) : Option (Int32 × q_Hp) := q_gu ((q_tag σ (q_ref σ a0 1) = 7) ∧ (q_tag σ (q_ref σ a0 2) = 7) ∧ (q_tag σ (q_ref σ a0 3) = 7) ∧ (q_tag σ (q_ref σ a0 4) = 7) ∧ (q_tag σ (q_ref σ a0 5) = 7)) ((if (8 : Int32) ≤ x1 then fX5_suitComes_25 σ h a0 x1 x2 x3 x4 else (if (20 : Int32) < x3 then fX5_suitComes_25 σ h a0 x1 x2 x3 x4 else (if (7 : Int32) ≤ (q_int h a0 0) then fX5_suitComes_25 σ h a0 x1 x2 x3 x4 else fX5_suitComes_26 σ h a0 x1 x2 x3 x4 (1 : Int32)))))
def cdX5_suitComes : q_Cd := [(0, .iload_n 1), (1, .bipush 8), (3, .if_icmp .ge 22), (6, .iload_n 3), (7, .bipush 20), (9, .if_icmp .gt 16), (12, .aload_n 0), (13, .getfield 93), (16, .bipush 7), (18, .if_icmp .ge 7), (21, .iconst 1), (22, .goto 4), (25, .iconst 0), (26, .istore 5), (28, .iload 5), (30, .ifCond .eq 64), (33, .aload_n 0), (34, .getfield 7), (37, .aload_n 0), (38, .getfield 93), (41, .iload_n 1), (42, .iastore), (43, .aload_n 0), (44, .getfield 13), (47, .aload_n 0), (48, .getfield 93), (51, .iload_n 2), (52, .iastore), (53, .aload_n 0), (54, .getfield 16), (57, .aload_n 0), (58, .getfield 93), (61, .iload_n 3), (62, .iastore), (63, .aload_n 0), (64, .getfield 19), (67, .aload_n 0), (68, .getfield 93), (71, .iload 4), (73, .iastore), (74, .aload_n 0), (75, .getfield 22), (78, .aload_n 0), (79, .getfield 93), (82, .iconst 0), (83, .iastore), (84, .aload_n 0), (85, .dup), (86, .getfield 93), (89, .iconst 1), (90, .iadd), (91, .putfield 93), (94, .iload 5), (96, .ireturn)]
set_option maxRecDepth 100000 in
theorem cokX5_suitComes : q_cok cX5_suitComes cdX5_suitComes := by unfold q_cok; decide +kernel
set_option maxRecDepth 100000 in
set_option maxHeartbeats 4000000 in
theorem ctX5_suitComes {l : Launch} {D : va_G} {cy : Nat → Nat} {b0 : Nat} {σ : q_St} {h : q_Hp} (a0 : Nat) (x1 : Int32) (x2 : Int32) (x3 : Int32) (x4 : Int32) {r : Int32} {h' : q_Hp} (ta0 : q_tag σ a0 = 6) (hf : fX5_suitComes σ h a0 x1 x2 x3 x4 = some (r, h')) : q_M l yX5_suitComes cX5_suitComes 6 (some .boolean) 0 0 0 0 D cy b0 σ h [.ref a0, .int x1, .int x2, .int x3, .int x4] (some (.int r)) σ h' := by
  unfold fX5_suitComes at hf
  obtain ⟨⟨k0, k1, k2, k3, k4⟩, hf⟩ := q_gu_o hf
  refine q_enter (by decide) (Nat.le_of_ble_eq_true rfl) ?_
  intro p e s m args below meth c C0 hr hlk hnm
  replace C0 : VC p { frames := 0, cells := 0, slots := 0, locals := 0 } s m args meth c D cy b0 6 0 0 RX5 cX5_suitComes := C0
  have n26 : ∀ (h : q_Hp) (s0 : Int32), fX5_suitComes_26 σ h a0 x1 x2 x3 x4 s0 = some (r, h') → V p l e { frames := 0, cells := 0, slots := 0, locals := 0 } s m args below meth c (MQ below (q_Qc D cy b0 (some (.int r)) σ h') args s 0 0 (fun q => b0 ≤ q)) D cy b0 6 0 0 0 0 σ h 26 [(0, .ref a0), (1, .int x1), (2, .int x2), (3, .int x3), (4, .int x4)] [.int s0] := by
    intro h s0 hf
    unfold fX5_suitComes_26 at hf
    refine v_run C0 tbX5 cokX5_suitComes (pc' := 30) (lv' := [(5, .int s0), (0, .ref a0), (1, .int x1), (2, .int x2), (3, .int x3), (4, .int x4)]) (st' := [.int s0]) (h' := h) 2 rfl trivial ?_
    refine v_if_eq C0 cokX5_suitComes rfl 94 (by decide) hf (fun _ hf => ?_) (fun _ hf => ?_)
    · refine v_run C0 tbX5 cokX5_suitComes (pc' := 96) (lv' := [(5, .int s0), (0, .ref a0), (1, .int x1), (2, .int x2), (3, .int x3), (4, .int x4)]) (st' := [.int s0]) (h' := h) 1 rfl trivial ?_
      obtain ⟨g1, hf⟩ := q_gu_o hf
      obtain ⟨rfl, rfl⟩ := Prod.mk.inj (Option.some.inj hf)
      exact v_zret C0 cokX5_suitComes hr hlk rfl g1
    · obtain ⟨⟨g2, g3, g4, g5, g6⟩, hf⟩ := q_gu_o hf
      refine v_run C0 tbX5 cokX5_suitComes (pc' := 96) (lv' := [(5, .int s0), (0, .ref a0), (1, .int x1), (2, .int x2), (3, .int x3), (4, .int x4)]) (st' := [.int s0]) (h' := (q_si (q_si (q_si (q_si (q_si (q_si h (q_ref σ a0 1) (Int32.toNatClampNeg (q_int h a0 0)) x1) (q_ref σ a0 2) (Int32.toNatClampNeg (q_int (q_si h (q_ref σ a0 1) (Int32.toNatClampNeg (q_int h a0 0)) x1) a0 0)) x2) (q_ref σ a0 3) (Int32.toNatClampNeg (q_int (q_si (q_si h (q_ref σ a0 1) (Int32.toNatClampNeg (q_int h a0 0)) x1) (q_ref σ a0 2) (Int32.toNatClampNeg (q_int (q_si h (q_ref σ a0 1) (Int32.toNatClampNeg (q_int h a0 0)) x1) a0 0)) x2) a0 0)) x3) (q_ref σ a0 4) (Int32.toNatClampNeg (q_int (q_si (q_si (q_si h (q_ref σ a0 1) (Int32.toNatClampNeg (q_int h a0 0)) x1) (q_ref σ a0 2) (Int32.toNatClampNeg (q_int (q_si h (q_ref σ a0 1) (Int32.toNatClampNeg (q_int h a0 0)) x1) a0 0)) x2) (q_ref σ a0 3) (Int32.toNatClampNeg (q_int (q_si (q_si h (q_ref σ a0 1) (Int32.toNatClampNeg (q_int h a0 0)) x1) (q_ref σ a0 2) (Int32.toNatClampNeg (q_int (q_si h (q_ref σ a0 1) (Int32.toNatClampNeg (q_int h a0 0)) x1) a0 0)) x2) a0 0)) x3) a0 0)) x4) (q_ref σ a0 5) (Int32.toNatClampNeg (q_int (q_si (q_si (q_si (q_si h (q_ref σ a0 1) (Int32.toNatClampNeg (q_int h a0 0)) x1) (q_ref σ a0 2) (Int32.toNatClampNeg (q_int (q_si h (q_ref σ a0 1) (Int32.toNatClampNeg (q_int h a0 0)) x1) a0 0)) x2) (q_ref σ a0 3) (Int32.toNatClampNeg (q_int (q_si (q_si h (q_ref σ a0 1) (Int32.toNatClampNeg (q_int h a0 0)) x1) (q_ref σ a0 2) (Int32.toNatClampNeg (q_int (q_si h (q_ref σ a0 1) (Int32.toNatClampNeg (q_int h a0 0)) x1) a0 0)) x2) a0 0)) x3) (q_ref σ a0 4) (Int32.toNatClampNeg (q_int (q_si (q_si (q_si h (q_ref σ a0 1) (Int32.toNatClampNeg (q_int h a0 0)) x1) (q_ref σ a0 2) (Int32.toNatClampNeg (q_int (q_si h (q_ref σ a0 1) (Int32.toNatClampNeg (q_int h a0 0)) x1) a0 0)) x2) (q_ref σ a0 3) (Int32.toNatClampNeg (q_int (q_si (q_si h (q_ref σ a0 1) (Int32.toNatClampNeg (q_int h a0 0)) x1) (q_ref σ a0 2) (Int32.toNatClampNeg (q_int (q_si h (q_ref σ a0 1) (Int32.toNatClampNeg (q_int h a0 0)) x1) a0 0)) x2) a0 0)) x3) a0 0)) x4) a0 0)) (0 : Int32)) a0 0 ((q_int (q_si (q_si (q_si (q_si (q_si h (q_ref σ a0 1) (Int32.toNatClampNeg (q_int h a0 0)) x1) (q_ref σ a0 2) (Int32.toNatClampNeg (q_int (q_si h (q_ref σ a0 1) (Int32.toNatClampNeg (q_int h a0 0)) x1) a0 0)) x2) (q_ref σ a0 3) (Int32.toNatClampNeg (q_int (q_si (q_si h (q_ref σ a0 1) (Int32.toNatClampNeg (q_int h a0 0)) x1) (q_ref σ a0 2) (Int32.toNatClampNeg (q_int (q_si h (q_ref σ a0 1) (Int32.toNatClampNeg (q_int h a0 0)) x1) a0 0)) x2) a0 0)) x3) (q_ref σ a0 4) (Int32.toNatClampNeg (q_int (q_si (q_si (q_si h (q_ref σ a0 1) (Int32.toNatClampNeg (q_int h a0 0)) x1) (q_ref σ a0 2) (Int32.toNatClampNeg (q_int (q_si h (q_ref σ a0 1) (Int32.toNatClampNeg (q_int h a0 0)) x1) a0 0)) x2) (q_ref σ a0 3) (Int32.toNatClampNeg (q_int (q_si (q_si h (q_ref σ a0 1) (Int32.toNatClampNeg (q_int h a0 0)) x1) (q_ref σ a0 2) (Int32.toNatClampNeg (q_int (q_si h (q_ref σ a0 1) (Int32.toNatClampNeg (q_int h a0 0)) x1) a0 0)) x2) a0 0)) x3) a0 0)) x4) (q_ref σ a0 5) (Int32.toNatClampNeg (q_int (q_si (q_si (q_si (q_si h (q_ref σ a0 1) (Int32.toNatClampNeg (q_int h a0 0)) x1) (q_ref σ a0 2) (Int32.toNatClampNeg (q_int (q_si h (q_ref σ a0 1) (Int32.toNatClampNeg (q_int h a0 0)) x1) a0 0)) x2) (q_ref σ a0 3) (Int32.toNatClampNeg (q_int (q_si (q_si h (q_ref σ a0 1) (Int32.toNatClampNeg (q_int h a0 0)) x1) (q_ref σ a0 2) (Int32.toNatClampNeg (q_int (q_si h (q_ref σ a0 1) (Int32.toNatClampNeg (q_int h a0 0)) x1) a0 0)) x2) a0 0)) x3) (q_ref σ a0 4) (Int32.toNatClampNeg (q_int (q_si (q_si (q_si h (q_ref σ a0 1) (Int32.toNatClampNeg (q_int h a0 0)) x1) (q_ref σ a0 2) (Int32.toNatClampNeg (q_int (q_si h (q_ref σ a0 1) (Int32.toNatClampNeg (q_int h a0 0)) x1) a0 0)) x2) (q_ref σ a0 3) (Int32.toNatClampNeg (q_int (q_si (q_si h (q_ref σ a0 1) (Int32.toNatClampNeg (q_int h a0 0)) x1) (q_ref σ a0 2) (Int32.toNatClampNeg (q_int (q_si h (q_ref σ a0 1) (Int32.toNatClampNeg (q_int h a0 0)) x1) a0 0)) x2) a0 0)) x3) a0 0)) x4) a0 0)) (0 : Int32)) a0 0) + (1 : Int32)))) 37 rfl ⟨⟨ta0, q_tn k0⟩, ta0, ⟨k0, g2⟩, ⟨ta0, q_tn k1⟩, ta0, ⟨k1, g3⟩, ⟨ta0, q_tn k2⟩, ta0, ⟨k2, g4⟩, ⟨ta0, q_tn k3⟩, ta0, ⟨k3, g5⟩, ⟨ta0, q_tn k4⟩, ta0, ⟨k4, g6⟩, ta0, ta0, trivial⟩ ?_
      obtain ⟨g7, hf⟩ := q_gu_o hf
      obtain ⟨rfl, rfl⟩ := Prod.mk.inj (Option.some.inj hf)
      exact v_zret C0 cokX5_suitComes hr hlk rfl g7
  have n25 : ∀ (h : q_Hp), fX5_suitComes_25 σ h a0 x1 x2 x3 x4 = some (r, h') → V p l e { frames := 0, cells := 0, slots := 0, locals := 0 } s m args below meth c (MQ below (q_Qc D cy b0 (some (.int r)) σ h') args s 0 0 (fun q => b0 ≤ q)) D cy b0 6 0 0 0 0 σ h 25 [(0, .ref a0), (1, .int x1), (2, .int x2), (3, .int x3), (4, .int x4)] [] := by
    intro h hf
    unfold fX5_suitComes_25 at hf
    refine v_run C0 tbX5 cokX5_suitComes (pc' := 26) (lv' := [(0, .ref a0), (1, .int x1), (2, .int x2), (3, .int x3), (4, .int x4)]) (st' := [.int (0 : Int32)]) (h' := h) 1 rfl trivial ?_
    refine v_pick [0, 1, 2, 3, 4] rfl ?_
    exact n26 h (0 : Int32) hf
  refine v_run C0 tbX5 cokX5_suitComes (pc' := 3) (lv' := [(0, .ref a0), (1, .int x1), (2, .int x2), (3, .int x3), (4, .int x4)]) (st' := [.int (8 : Int32), .int x1]) (h' := h) 2 rfl trivial ?_
  refine v_icmp_ge C0 cokX5_suitComes rfl 25 (by decide) hf (fun _ hf => ?_) (fun _ hf => ?_)
  · refine v_pick [0, 1, 2, 3, 4] rfl ?_
    exact n25 h hf
  · refine v_run C0 tbX5 cokX5_suitComes (pc' := 9) (lv' := [(0, .ref a0), (1, .int x1), (2, .int x2), (3, .int x3), (4, .int x4)]) (st' := [.int (20 : Int32), .int x3]) (h' := h) 2 rfl trivial ?_
    refine v_icmp_gt C0 cokX5_suitComes rfl 25 (by decide) hf (fun _ hf => ?_) (fun _ hf => ?_)
    · refine v_pick [0, 1, 2, 3, 4] rfl ?_
      exact n25 h hf
    · refine v_run C0 tbX5 cokX5_suitComes (pc' := 18) (lv' := [(0, .ref a0), (1, .int x1), (2, .int x2), (3, .int x3), (4, .int x4)]) (st' := [.int (7 : Int32), .int (q_int h a0 0)]) (h' := h) 3 rfl ⟨ta0, trivial⟩ ?_
      refine v_icmp_ge C0 cokX5_suitComes rfl 25 (by decide) hf (fun _ hf => ?_) (fun _ hf => ?_)
      · refine v_pick [0, 1, 2, 3, 4] rfl ?_
        exact n25 h hf
      · refine v_run C0 tbX5 cokX5_suitComes (pc' := 26) (lv' := [(0, .ref a0), (1, .int x1), (2, .int x2), (3, .int x3), (4, .int x4)]) (st' := [.int (1 : Int32)]) (h' := h) 2 rfl trivial ?_
        refine v_pick [0, 1, 2, 3, 4] rfl ?_
        exact n26 h (1 : Int32) hf
