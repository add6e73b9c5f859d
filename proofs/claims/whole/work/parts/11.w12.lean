-- BackByNoonOnMondayModel.buy(II)I
noncomputable def fX5_buy_86 (σ : q_St) (h : q_Hp) (a0 : Nat) (x1 : Int32) (x2 : Int32) (x3 : Int32) (x5 : Int32) (x6 : Int32) (x7 : Int32) (s0 : Int32) : Option ((Int32 × Int32 × Int32 × q_St × q_Hp) ⊕ (Int32 × Int32 × q_St × q_Hp)) := ((fX5_greater σ h x5 x7).bind fun r10 => some (Sum.inl (s0, r10, (x6 + (1 : Int32)), σ, h)))
noncomputable def fX5_buy_47 (a0 : Nat) (x1 : Int32) (x2 : Int32) (x3 : Int32) (x4 : Int32) (x5 : Int32) (x6 : Int32) (σ : q_St) (h : q_Hp) : Option ((Int32 × Int32 × Int32 × q_St × q_Hp) ⊕ (Int32 × Int32 × q_St × q_Hp)) := (if (8 : Int32) ≤ x6 then some (Sum.inr (x4, x5, σ, h)) else q_gu ((q_tag σ a0 = 6)) (((fX5_add σ h a0 x6 (5 : Int32) x1).bind fun h7 => (q_b2 (fX5_earnedNow σ h7 a0) fun r8 h8 => (q_b2 (fX5_close σ h8 a0) fun σ9 h9 => (if r8 ≤ x5 then fX5_buy_86  σ9 h9 a0 x1 x2 x3 x5 x6 r8 x4 else fX5_buy_86  σ9 h9 a0 x1 x2 x3 x5 x6 r8 x6))))))
noncomputable def fX5_buy (σ : q_St) (h : q_Hp) (a0 : Nat) (x1 : Int32) (x2 : Int32) : Option (Int32 × q_St × q_Hp) := ((fX5_in σ (q_si h a0 21 (0 : Int32)) (Int32.toInt64 x1) (0 : Int64) (20 : Int64)).bind fun r1 => (if r1 = 0 then some ((-1 : Int32), σ, (q_si h a0 21 (0 : Int32))) else ((fX5_in σ (q_si h a0 21 (0 : Int32)) (Int32.toInt64 x2) (0 : Int64) (1 : Int64)).bind fun r2 => (if r2 = 0 then some ((-1 : Int32), σ, (q_si h a0 21 (0 : Int32))) else (q_b2 (fX5_earnedNow σ (q_si h a0 21 (0 : Int32)) a0) fun r3 h3 => (q_b2 (fX5_open σ h3 a0) fun σ4 h4 => (q_loop (fun s => fX5_buy_47  a0 x1 x2 r3 s.1 s.2.1 s.2.2.1 s.2.2.2.1 s.2.2.2.2) q_N ((0 : Int32), (-1 : Int32), (0 : Int32), σ4, h4)).bind fun o5 => (if x2 = 0 then some (o5.1, o5.2.2.1, o5.2.2.2) else some ((o5.2.1 - r3), o5.2.2.1, o5.2.2.2))))))))
def cdX5_buy : q_Cd := [(0, .aload_n 0), (1, .iconst 0), (2, .putfield 89), (5, .iload_n 1), (6, .i2l), (7, .lconst 0), (8, .ldc2_w 231), (11, .invokestatic 96), (14, .ifCond .eq 13), (17, .iload_n 2), (18, .i2l), (19, .lconst 0), (20, .lconst 1), (21, .invokestatic 96), (24, .ifCond .ne 5), (27, .iconst (-1)), (28, .ireturn), (29, .aload_n 0), (30, .invokevirtual 278), (33, .istore_n 3), (34, .iconst 0), (35, .istore 4), (37, .iconst (-1)), (38, .istore 5), (40, .aload_n 0), (41, .invokevirtual 198), (44, .iconst 0), (45, .istore 6), (47, .iload 6), (49, .bipush 8), (51, .if_icmp .ge 52), (54, .aload_n 0), (55, .iload 6), (57, .iconst 5), (58, .iload_n 1), (59, .invokevirtual 281), (62, .aload_n 0), (63, .invokevirtual 278), (66, .istore 7), (68, .aload_n 0), (69, .invokevirtual 204), (72, .iload 7), (74, .iload 5), (76, .if_icmp .le 8), (79, .iload 6), (81, .goto 5), (84, .iload 4), (86, .istore 4), (88, .iload 5), (90, .iload 7), (92, .invokestatic 258), (95, .istore 5), (97, .iinc 6 1), (100, .goto (-53)), (103, .iload_n 2), (104, .ifCond .ne 8), (107, .iload 4), (109, .goto 7), (112, .iload 5), (114, .iload_n 3), (115, .isub), (116, .ireturn)]
set_option maxRecDepth 100000 in
theorem cokX5_buy : q_cok cX5_buy cdX5_buy := by unfold q_cok; decide +kernel
set_option maxRecDepth 100000 in
set_option maxHeartbeats 4000000 in
theorem ctX5_buy {l : Launch} {D : va_G} {cy : Nat → Nat} {b0 : Nat} {σ : q_St} {h : q_Hp} (a0 : Nat) (x1 : Int32) (x2 : Int32) {r : Int32} {σ' : q_St} {h' : q_Hp} (ta0 : q_tag σ a0 = 6) (hf : fX5_buy σ h a0 x1 x2 = some (r, σ', h')) : q_M l yX5_buy cX5_buy 8 (some .int) 6 132 0 0 D cy b0 σ h [.ref a0, .int x1, .int x2] (some (.int r)) σ' h' := by
  unfold fX5_buy at hf
  refine q_enter (by decide) (Nat.le_of_ble_eq_true rfl) ?_
  intro p e s m args below meth c C0 hr hlk hnm
  replace C0 : VC p { frames := 6, cells := 0, slots := 0, locals := 132 } s m args meth c D cy b0 8 0 0 RX5 cX5_buy := C0
  have n47 : ∀ (x3 : Int32) (o : (Int32 × Int32 × q_St × q_Hp)) (s1 : (Int32 × Int32 × Int32 × q_St × q_Hp)), q_loop (fun s => fX5_buy_47  a0 x1 x2 x3 s.1 s.2.1 s.2.2.1 s.2.2.2.1 s.2.2.2.2) q_N s1 = some o → V p l e { frames := 6, cells := 0, slots := 0, locals := 132 } s m args below meth c (MQ below (q_Qc D cy b0 (some (.int r)) σ' h') args s 0 0 (fun q => b0 ≤ q)) D cy b0 8 0 0 0 0 o.2.2.1 o.2.2.2 103 [(2, .int x2), (3, .int x3), (4, .int o.1), (5, .int o.2.1)] [] → V p l e { frames := 6, cells := 0, slots := 0, locals := 132 } s m args below meth c (MQ below (q_Qc D cy b0 (some (.int r)) σ' h') args s 0 0 (fun q => b0 ≤ q)) D cy b0 8 0 0 0 0 s1.2.2.2.1 s1.2.2.2.2 47 [(0, .ref a0), (1, .int x1), (2, .int x2), (3, .int x3), (4, .int s1.1), (5, .int s1.2.1), (6, .int s1.2.2.1)] [] := by
    intro x3 o s1 ho kx1
    refine q_loop_V (P := fun s0 => V p l e { frames := 6, cells := 0, slots := 0, locals := 132 } s m args below meth c (MQ below (q_Qc D cy b0 (some (.int r)) σ' h') args s 0 0 (fun q => b0 ≤ q)) D cy b0 8 0 0 0 0 s0.2.2.2.1 s0.2.2.2.2 47 [(0, .ref a0), (1, .int x1), (2, .int x2), (3, .int x3), (4, .int s0.1), (5, .int s0.2.1), (6, .int s0.2.2.1)] []) (o := o) ?_ q_N s1 ho
    intro s2 z1 hf kb1 kr1
    obtain ⟨x4, x5, x6, σ, h⟩ := s2
    replace hf : fX5_buy_47  a0 x1 x2 x3 x4 x5 x6 σ h = some z1 := hf
    unfold fX5_buy_47 at hf
    show V p l e { frames := 6, cells := 0, slots := 0, locals := 132 } s m args below meth c (MQ below (q_Qc D cy b0 (some (.int r)) σ' h') args s 0 0 (fun q => b0 ≤ q)) D cy b0 8 0 0 0 0 σ h 47 [(0, .ref a0), (1, .int x1), (2, .int x2), (3, .int x3), (4, .int x4), (5, .int x5), (6, .int x6)] []
    have n86 : ∀ (σ : q_St) (h : q_Hp) (x5 : Int32) (x6 : Int32) (x7 : Int32) (s0 : Int32), fX5_buy_86  σ h a0 x1 x2 x3 x5 x6 x7 s0 = some z1 → V p l e { frames := 6, cells := 0, slots := 0, locals := 132 } s m args below meth c (MQ below (q_Qc D cy b0 (some (.int r)) σ' h') args s 0 0 (fun q => b0 ≤ q)) D cy b0 8 0 0 0 0 σ h 86 [(0, .ref a0), (1, .int x1), (2, .int x2), (3, .int x3), (5, .int x5), (6, .int x6), (7, .int x7)] [.int s0] := by
      intro σ h x5 x6 x7 s0 hf
      unfold fX5_buy_86 at hf
      refine v_run C0 tbX5 cokX5_buy (pc' := 92) (lv' := [(4, .int s0), (0, .ref a0), (1, .int x1), (2, .int x2), (3, .int x3), (5, .int x5), (6, .int x6), (7, .int x7)]) (st' := [.int x7, .int x5]) (h' := h) 3 rfl trivial ?_
      obtain ⟨r10, e10, hf⟩ := q_bd hf
      refine v_callS C0 cokX5_buy rfl (rest := []) (ctX5_greater x5 x7 e10) calX5_greater lkX5_258 inX5_greater dnX5_greater rfl rfl ⟨by decide, by decide⟩ (Nat.le_of_ble_eq_true rfl) (Nat.le_refl _) (Nat.le_refl _) ?_
      refine v_run C0 tbX5 cokX5_buy (pc' := 47) (lv' := [(6, .int (x6 + (1 : Int32))), (5, .int r10), (4, .int s0), (0, .ref a0), (1, .int x1), (2, .int x2), (3, .int x3), (7, .int x7)]) (st' := []) (h' := h) 3 rfl trivial ?_
      obtain rfl := Option.some.inj hf
      refine v_pick [3, 4, 5, 6, 2, 1, 0] rfl ?_
      exact kb1 _ rfl
    refine v_run C0 tbX5 cokX5_buy (pc' := 51) (lv' := [(0, .ref a0), (1, .int x1), (2, .int x2), (3, .int x3), (4, .int x4), (5, .int x5), (6, .int x6)]) (st' := [.int (8 : Int32), .int x6]) (h' := h) 2 rfl trivial ?_
    refine v_icmp_ge C0 cokX5_buy rfl 103 (by decide) hf (fun _ hf => ?_) (fun _ hf => ?_)
    · obtain rfl := Option.some.inj hf
      refine v_pick [2, 3, 4, 5] rfl ?_
      have hx := kr1 _ rfl
      subst hx
      exact kx1
    · refine v_run C0 tbX5 cokX5_buy (pc' := 59) (lv' := [(0, .ref a0), (1, .int x1), (2, .int x2), (3, .int x3), (4, .int x4), (5, .int x5), (6, .int x6)]) (st' := [.int x1, .int (5 : Int32), .int x6, .ref a0]) (h' := h) 4 rfl trivial ?_
      obtain ⟨g6, hf⟩ := q_gu_o hf
      obtain ⟨h7, e7, hf⟩ := q_bd hf
      refine v_callV C0 cokX5_buy rfl (rest := []) (ctX5_add a0 x6 (5 : Int32) x1 g6 e7) calX5_add lkX5_281 inX5_add dnX5_add (ci := 5) ⟨rfl, by decide⟩ g6 rfl rfl ⟨by decide, by decide⟩ (Nat.le_of_ble_eq_true rfl) (Nat.le_refl _) (Nat.le_refl _) ?_
      refine v_run C0 tbX5 cokX5_buy (pc' := 63) (lv' := [(0, .ref a0), (1, .int x1), (2, .int x2), (3, .int x3), (4, .int x4), (5, .int x5), (6, .int x6)]) (st' := [.ref a0]) (h' := h7) 1 rfl trivial ?_
      obtain ⟨r8, h8, e8, hf⟩ := q_bd2 hf
      refine v_callV C0 cokX5_buy rfl (rest := []) (ctX5_earnedNow a0 g6 e8) calX5_earnedNow lkX5_278 inX5_earnedNow dnX5_earnedNow (ci := 5) ⟨rfl, by decide⟩ g6 rfl rfl ⟨by decide, by decide⟩ (Nat.le_of_ble_eq_true rfl) (Nat.le_refl _) (Nat.le_refl _) ?_
      refine v_run C0 tbX5 cokX5_buy (pc' := 69) (lv' := [(7, .int r8), (0, .ref a0), (1, .int x1), (2, .int x2), (3, .int x3), (4, .int x4), (5, .int x5), (6, .int x6)]) (st' := [.ref a0]) (h' := h8) 2 rfl trivial ?_
      obtain ⟨σ9, h9, e9, hf⟩ := q_bd2 hf
      refine v_callV C0 cokX5_buy rfl (rest := []) (ctX5_close a0 g6 e9) calX5_close lkX5_204 inX5_close dnX5_close (ci := 5) ⟨rfl, by decide⟩ g6 rfl rfl ⟨by decide, by decide⟩ (Nat.le_of_ble_eq_true rfl) (Nat.le_refl _) (Nat.le_refl _) ?_
      refine v_run C0 tbX5 cokX5_buy (pc' := 76) (lv' := [(7, .int r8), (0, .ref a0), (1, .int x1), (2, .int x2), (3, .int x3), (4, .int x4), (5, .int x5), (6, .int x6)]) (st' := [.int x5, .int r8]) (h' := h9) 2 rfl trivial ?_
      refine v_icmp_le C0 cokX5_buy rfl 84 (by decide) hf (fun _ hf => ?_) (fun _ hf => ?_)
      · refine v_run C0 tbX5 cokX5_buy (pc' := 86) (lv' := [(7, .int r8), (0, .ref a0), (1, .int x1), (2, .int x2), (3, .int x3), (4, .int x4), (5, .int x5), (6, .int x6)]) (st' := [.int x4]) (h' := h9) 1 rfl trivial ?_
        refine v_pick [1, 2, 3, 4, 6, 7, 0] rfl ?_
        exact n86 σ9 h9 x5 x6 r8 x4 hf
      · refine v_run C0 tbX5 cokX5_buy (pc' := 86) (lv' := [(7, .int r8), (0, .ref a0), (1, .int x1), (2, .int x2), (3, .int x3), (4, .int x4), (5, .int x5), (6, .int x6)]) (st' := [.int x6]) (h' := h9) 2 rfl trivial ?_
        refine v_pick [1, 2, 3, 4, 6, 7, 0] rfl ?_
        exact n86 σ9 h9 x5 x6 r8 x6 hf
  refine v_run C0 tbX5 cokX5_buy (pc' := 11) (lv' := [(0, .ref a0), (1, .int x1), (2, .int x2)]) (st' := [.long (20 : Int64), .long (0 : Int64), .long (Int32.toInt64 x1)]) (h' := (q_si h a0 21 (0 : Int32))) 7 rfl ⟨ta0, trivial⟩ ?_
  obtain ⟨r1, e1, hf⟩ := q_bd hf
  refine v_callS C0 cokX5_buy rfl (rest := []) (ctX5_in (Int32.toInt64 x1) (0 : Int64) (20 : Int64) e1) calX5_in lkX5_96 inX5_in dnX5_in rfl rfl ⟨by decide, by decide⟩ (Nat.le_of_ble_eq_true rfl) (Nat.le_refl _) (Nat.le_refl _) ?_
  refine v_if_eq C0 cokX5_buy rfl 27 (by decide) hf (fun _ hf => ?_) (fun _ hf => ?_)
  · refine v_run C0 tbX5 cokX5_buy (pc' := 28) (lv' := [(0, .ref a0), (1, .int x1), (2, .int x2)]) (st' := [.int (-1 : Int32)]) (h' := (q_si h a0 21 (0 : Int32))) 1 rfl trivial ?_
    obtain ⟨hq1, hq2⟩ := Prod.mk.inj (Option.some.inj hf)
    obtain ⟨hq3, hq4⟩ := Prod.mk.inj hq2
    subst hq1
    subst hq3
    subst hq4
    exact v_iret C0 cokX5_buy hr hlk rfl
  · refine v_run C0 tbX5 cokX5_buy (pc' := 21) (lv' := [(0, .ref a0), (1, .int x1), (2, .int x2)]) (st' := [.long (1 : Int64), .long (0 : Int64), .long (Int32.toInt64 x2)]) (h' := (q_si h a0 21 (0 : Int32))) 4 rfl trivial ?_
    obtain ⟨r2, e2, hf⟩ := q_bd hf
    refine v_callS C0 cokX5_buy rfl (rest := []) (ctX5_in (Int32.toInt64 x2) (0 : Int64) (1 : Int64) e2) calX5_in lkX5_96 inX5_in dnX5_in rfl rfl ⟨by decide, by decide⟩ (Nat.le_of_ble_eq_true rfl) (Nat.le_refl _) (Nat.le_refl _) ?_
    refine v_if_ne C0 cokX5_buy rfl 29 (by decide) hf (fun _ hf => ?_) (fun _ hf => ?_)
    · refine v_run C0 tbX5 cokX5_buy (pc' := 28) (lv' := [(0, .ref a0), (1, .int x1), (2, .int x2)]) (st' := [.int (-1 : Int32)]) (h' := (q_si h a0 21 (0 : Int32))) 1 rfl trivial ?_
      obtain ⟨hq1, hq2⟩ := Prod.mk.inj (Option.some.inj hf)
      obtain ⟨hq3, hq4⟩ := Prod.mk.inj hq2
      subst hq1
      subst hq3
      subst hq4
      exact v_iret C0 cokX5_buy hr hlk rfl
    · refine v_run C0 tbX5 cokX5_buy (pc' := 30) (lv' := [(0, .ref a0), (1, .int x1), (2, .int x2)]) (st' := [.ref a0]) (h' := (q_si h a0 21 (0 : Int32))) 1 rfl trivial ?_
      obtain ⟨r3, h3, e3, hf⟩ := q_bd2 hf
      refine v_callV C0 cokX5_buy rfl (rest := []) (ctX5_earnedNow a0 ta0 e3) calX5_earnedNow lkX5_278 inX5_earnedNow dnX5_earnedNow (ci := 5) ⟨rfl, by decide⟩ ta0 rfl rfl ⟨by decide, by decide⟩ (Nat.le_of_ble_eq_true rfl) (Nat.le_refl _) (Nat.le_refl _) ?_
      refine v_run C0 tbX5 cokX5_buy (pc' := 41) (lv' := [(5, .int (-1 : Int32)), (4, .int (0 : Int32)), (3, .int r3), (0, .ref a0), (1, .int x1), (2, .int x2)]) (st' := [.ref a0]) (h' := h3) 6 rfl trivial ?_
      obtain ⟨σ4, h4, e4, hf⟩ := q_bd2 hf
      refine v_callV C0 cokX5_buy rfl (rest := []) (ctX5_open a0 ta0 e4) calX5_open lkX5_198 inX5_open dnX5_open (ci := 5) ⟨rfl, by decide⟩ ta0 rfl rfl ⟨by decide, by decide⟩ (Nat.le_of_ble_eq_true rfl) (Nat.le_refl _) (Nat.le_refl _) ?_
      refine v_run C0 tbX5 cokX5_buy (pc' := 47) (lv' := [(6, .int (0 : Int32)), (5, .int (-1 : Int32)), (4, .int (0 : Int32)), (3, .int r3), (0, .ref a0), (1, .int x1), (2, .int x2)]) (st' := []) (h' := h4) 2 rfl trivial ?_
      obtain ⟨o5, eo5, hf⟩ := q_bd hf
      refine v_pick [4, 5, 6, 3, 2, 1, 0] rfl ?_
      refine n47 r3 o5 ((0 : Int32), (-1 : Int32), (0 : Int32), σ4, h4) eo5 ?_
      refine v_run C0 tbX5 cokX5_buy (pc' := 104) (lv' := [(2, .int x2), (3, .int r3), (4, .int o5.1), (5, .int o5.2.1)]) (st' := [.int x2]) (h' := o5.2.2.2) 1 rfl trivial ?_
      refine v_if_ne C0 cokX5_buy rfl 112 (by decide) hf (fun _ hf => ?_) (fun _ hf => ?_)
      · refine v_run C0 tbX5 cokX5_buy (pc' := 116) (lv' := [(2, .int x2), (3, .int r3), (4, .int o5.1), (5, .int o5.2.1)]) (st' := [.int o5.1]) (h' := o5.2.2.2) 2 rfl trivial ?_
        obtain ⟨hq1, hq2⟩ := Prod.mk.inj (Option.some.inj hf)
        obtain ⟨hq3, hq4⟩ := Prod.mk.inj hq2
        subst hq1
        subst hq3
        subst hq4
        exact v_iret C0 cokX5_buy hr hlk rfl
      · refine v_run C0 tbX5 cokX5_buy (pc' := 116) (lv' := [(2, .int x2), (3, .int r3), (4, .int o5.1), (5, .int o5.2.1)]) (st' := [.int (o5.2.1 - r3)]) (h' := o5.2.2.2) 3 rfl trivial ?_
        obtain ⟨hq1, hq2⟩ := Prod.mk.inj (Option.some.inj hf)
        obtain ⟨hq3, hq4⟩ := Prod.mk.inj hq2
        subst hq1
        subst hq3
        subst hq4
        exact v_iret C0 cokX5_buy hr hlk rfl
-- BackByNoonOnMondayModel.sell()I
noncomputable def fX5_sell_94 (σ : q_St) (h : q_Hp) (a0 : Nat) (x1 : Int32) (x2 : Int32) (x3 : Int32) : Option ((Int32 × Int32 × Int32 × q_Hp) ⊕ (Int32 × q_Hp)) := some (Sum.inl (x1, x2, (x3 + (1 : Int32)), h))
noncomputable def fX5_sell_86 (σ : q_St) (h : q_Hp) (a0 : Nat) (x2 : Int32) (x3 : Int32) (x4 : Int32) (s0 : Int32) : Option ((Int32 × Int32 × Int32 × q_Hp) ⊕ (Int32 × q_Hp)) := ((fX5_greater σ h x2 x4).bind fun r6 => fX5_sell_94 σ h a0 s0 r6 x3)
noncomputable def fX5_sell_74 (σ : q_St) (h : q_Hp) (a0 : Nat) (x1 : Int32) (x2 : Int32) (x3 : Int32) (x4 : Int32) (s0 : Int32) : Option ((Int32 × Int32 × Int32 × q_Hp) ⊕ (Int32 × q_Hp)) := (if s0 = 0 then fX5_sell_86 σ h a0 x2 x3 x4 x1 else fX5_sell_86 σ h a0 x2 x3 x4 x3)
noncomputable def fX5_sell_69 (σ : q_St) (h : q_Hp) (a0 : Nat) (x1 : Int32) (x2 : Int32) (x3 : Int32) (x4 : Int32) : Option ((Int32 × Int32 × Int32 × q_Hp) ⊕ (Int32 × q_Hp)) := fX5_sell_74 σ h a0 x1 x2 x3 x4 (1 : Int32)
noncomputable def fX5_sell_73 (σ : q_St) (h : q_Hp) (a0 : Nat) (x1 : Int32) (x2 : Int32) (x3 : Int32) (x4 : Int32) : Option ((Int32 × Int32 × Int32 × q_Hp) ⊕ (Int32 × q_Hp)) := fX5_sell_74 σ h a0 x1 x2 x3 x4 (0 : Int32)
noncomputable def fX5_sell_12 (σ : q_St) (a0 : Nat) (x1 : Int32) (x2 : Int32) (x3 : Int32) (h : q_Hp) : Option ((Int32 × Int32 × Int32 × q_Hp) ⊕ (Int32 × q_Hp)) := (if (q_int h a0 0) ≤ x3 then some (Sum.inr (x1, h)) else q_gu ((vp_in x3 (q_len σ (q_ref σ a0 5)))) ((if (q_int h (q_ref σ a0 5) (Int32.toNatClampNeg x3)) = 0 then (q_b2 (fX5_earnedNow σ (q_si h a0 37 ((1 : Int32) <<< (x3 &&& 31))) a0) fun r3 h3 => (if x2 < r3 then fX5_sell_69 σ h3 a0 x1 x2 x3 r3 else (if r3 = x2 then q_gu ((vp_in x3 (q_len σ (q_ref σ a0 4))) ∧ (vp_in x1 (q_len σ (q_ref σ a0 4)))) ((if (q_int h3 (q_ref σ a0 4) (Int32.toNatClampNeg x3)) ≤ (q_int h3 (q_ref σ a0 4) (Int32.toNatClampNeg x1)) then fX5_sell_73 σ h3 a0 x1 x2 x3 r3 else fX5_sell_69 σ h3 a0 x1 x2 x3 r3)) else fX5_sell_73 σ h3 a0 x1 x2 x3 r3))) else fX5_sell_94 σ h a0 x1 x2 x3)))
noncomputable def fX5_sell (σ : q_St) (h : q_Hp) (a0 : Nat) : Option (Int32 × q_Hp) := q_gu ((q_tag σ (q_ref σ a0 5) = 7) ∧ (q_tag σ (q_ref σ a0 4) = 7)) ((q_loop (fun s => fX5_sell_12 σ a0 s.1 s.2.1 s.2.2.1 s.2.2.2) q_N ((-4 : Int32), (-1 : Int32), (0 : Int32), (q_si h a0 21 (0 : Int32)))).bind fun o1 => some (o1.1, (q_si o1.2 a0 37 (0 : Int32))))
def cdX5_sell : q_Cd := [(0, .aload_n 0), (1, .iconst 0), (2, .putfield 89), (5, .bipush (-4)), (7, .istore_n 1), (8, .iconst (-1)), (9, .istore_n 2), (10, .iconst 0), (11, .istore_n 3), (12, .iload_n 3), (13, .aload_n 0), (14, .getfield 93), (17, .if_icmp .ge 83), (20, .aload_n 0), (21, .getfield 22), (24, .iload_n 3), (25, .iaload), (26, .ifCond .ne 68), (29, .aload_n 0), (30, .iconst 1), (31, .iload_n 3), (32, .ishl), (33, .putfield 240), (36, .aload_n 0), (37, .invokevirtual 278), (40, .istore 4), (42, .iload 4), (44, .iload_n 2), (45, .if_icmp .gt 24), (48, .iload 4), (50, .iload_n 2), (51, .if_icmp .ne 22), (54, .aload_n 0), (55, .getfield 19), (58, .iload_n 3), (59, .iaload), (60, .aload_n 0), (61, .getfield 19), (64, .iload_n 1), (65, .iaload), (66, .if_icmp .le 7), (69, .iconst 1), (70, .goto 4), (73, .iconst 0), (74, .istore 5), (76, .iload 5), (78, .ifCond .eq 7), (81, .iload_n 3), (82, .goto 4), (85, .iload_n 1), (86, .istore_n 1), (87, .iload_n 2), (88, .iload 4), (90, .invokestatic 258), (93, .istore_n 2), (94, .iinc 3 1), (97, .goto (-85)), (100, .aload_n 0), (101, .iconst 0), (102, .putfield 240), (105, .iload_n 1), (106, .ireturn)]
set_option maxRecDepth 100000 in
theorem cokX5_sell : q_cok cX5_sell cdX5_sell := by unfold q_cok; decide +kernel
set_option maxRecDepth 100000 in
set_option maxHeartbeats 4000000 in
theorem ctX5_sell {l : Launch} {D : va_G} {cy : Nat → Nat} {b0 : Nat} {σ : q_St} {h : q_Hp} (a0 : Nat) {r : Int32} {h' : q_Hp} (ta0 : q_tag σ a0 = 6) (hf : fX5_sell σ h a0 = some (r, h')) : q_M l yX5_sell cX5_sell 6 (some .int) 6 132 0 0 D cy b0 σ h [.ref a0] (some (.int r)) σ h' := by
  unfold fX5_sell at hf
  obtain ⟨⟨k0, k1⟩, hf⟩ := q_gu_o hf
  refine q_enter (by decide) (Nat.le_of_ble_eq_true rfl) ?_
  intro p e s m args below meth c C0 hr hlk hnm
  replace C0 : VC p { frames := 6, cells := 0, slots := 0, locals := 132 } s m args meth c D cy b0 6 0 0 RX5 cX5_sell := C0
  have n12 : ∀ (o : (Int32 × q_Hp)) (s1 : (Int32 × Int32 × Int32 × q_Hp)), q_loop (fun s => fX5_sell_12 σ a0 s.1 s.2.1 s.2.2.1 s.2.2.2) q_N s1 = some o → V p l e { frames := 6, cells := 0, slots := 0, locals := 132 } s m args below meth c (MQ below (q_Qc D cy b0 (some (.int r)) σ h') args s 0 0 (fun q => b0 ≤ q)) D cy b0 6 0 0 0 0 σ o.2 100 [(0, .ref a0), (1, .int o.1)] [] → V p l e { frames := 6, cells := 0, slots := 0, locals := 132 } s m args below meth c (MQ below (q_Qc D cy b0 (some (.int r)) σ h') args s 0 0 (fun q => b0 ≤ q)) D cy b0 6 0 0 0 0 σ s1.2.2.2 12 [(0, .ref a0), (1, .int s1.1), (2, .int s1.2.1), (3, .int s1.2.2.1)] [] := by
    intro o s1 ho kx1
    refine q_loop_V (P := fun s0 => V p l e { frames := 6, cells := 0, slots := 0, locals := 132 } s m args below meth c (MQ below (q_Qc D cy b0 (some (.int r)) σ h') args s 0 0 (fun q => b0 ≤ q)) D cy b0 6 0 0 0 0 σ s0.2.2.2 12 [(0, .ref a0), (1, .int s0.1), (2, .int s0.2.1), (3, .int s0.2.2.1)] []) (o := o) ?_ q_N s1 ho
    intro s2 z1 hf kb1 kr1
    obtain ⟨x1, x2, x3, h⟩ := s2
    replace hf : fX5_sell_12 σ a0 x1 x2 x3 h = some z1 := hf
    unfold fX5_sell_12 at hf
    show V p l e { frames := 6, cells := 0, slots := 0, locals := 132 } s m args below meth c (MQ below (q_Qc D cy b0 (some (.int r)) σ h') args s 0 0 (fun q => b0 ≤ q)) D cy b0 6 0 0 0 0 σ h 12 [(0, .ref a0), (1, .int x1), (2, .int x2), (3, .int x3)] []
    have n94 : ∀ (h : q_Hp) (x1 : Int32) (x2 : Int32) (x3 : Int32), fX5_sell_94 σ h a0 x1 x2 x3 = some z1 → V p l e { frames := 6, cells := 0, slots := 0, locals := 132 } s m args below meth c (MQ below (q_Qc D cy b0 (some (.int r)) σ h') args s 0 0 (fun q => b0 ≤ q)) D cy b0 6 0 0 0 0 σ h 94 [(0, .ref a0), (1, .int x1), (2, .int x2), (3, .int x3)] [] := by
      intro h x1 x2 x3 hf
      unfold fX5_sell_94 at hf
      refine v_run C0 tbX5 cokX5_sell (pc' := 12) (lv' := [(3, .int (x3 + (1 : Int32))), (0, .ref a0), (1, .int x1), (2, .int x2)]) (st' := []) (h' := h) 2 rfl trivial ?_
      obtain rfl := Option.some.inj hf
      refine v_pick [1, 2, 3, 0] rfl ?_
      exact kb1 _ rfl
    have n86 : ∀ (h : q_Hp) (x2 : Int32) (x3 : Int32) (x4 : Int32) (s0 : Int32), fX5_sell_86 σ h a0 x2 x3 x4 s0 = some z1 → V p l e { frames := 6, cells := 0, slots := 0, locals := 132 } s m args below meth c (MQ below (q_Qc D cy b0 (some (.int r)) σ h') args s 0 0 (fun q => b0 ≤ q)) D cy b0 6 0 0 0 0 σ h 86 [(0, .ref a0), (2, .int x2), (3, .int x3), (4, .int x4)] [.int s0] := by
      intro h x2 x3 x4 s0 hf
      unfold fX5_sell_86 at hf
      refine v_run C0 tbX5 cokX5_sell (pc' := 90) (lv' := [(1, .int s0), (0, .ref a0), (2, .int x2), (3, .int x3), (4, .int x4)]) (st' := [.int x4, .int x2]) (h' := h) 3 rfl trivial ?_
      obtain ⟨r6, e6, hf⟩ := q_bd hf
      refine v_callS C0 cokX5_sell rfl (rest := []) (ctX5_greater x2 x4 e6) calX5_greater lkX5_258 inX5_greater dnX5_greater rfl rfl ⟨by decide, by decide⟩ (Nat.le_of_ble_eq_true rfl) (Nat.le_refl _) (Nat.le_refl _) ?_
      refine v_run C0 tbX5 cokX5_sell (pc' := 94) (lv' := [(2, .int r6), (1, .int s0), (0, .ref a0), (3, .int x3), (4, .int x4)]) (st' := []) (h' := h) 1 rfl trivial ?_
      refine v_pick [2, 1, 0, 3] rfl ?_
      exact n94 h s0 r6 x3 hf
    have n74 : ∀ (h : q_Hp) (x1 : Int32) (x2 : Int32) (x3 : Int32) (x4 : Int32) (s0 : Int32), fX5_sell_74 σ h a0 x1 x2 x3 x4 s0 = some z1 → V p l e { frames := 6, cells := 0, slots := 0, locals := 132 } s m args below meth c (MQ below (q_Qc D cy b0 (some (.int r)) σ h') args s 0 0 (fun q => b0 ≤ q)) D cy b0 6 0 0 0 0 σ h 74 [(0, .ref a0), (1, .int x1), (2, .int x2), (3, .int x3), (4, .int x4)] [.int s0] := by
      intro h x1 x2 x3 x4 s0 hf
      unfold fX5_sell_74 at hf
      refine v_run C0 tbX5 cokX5_sell (pc' := 78) (lv' := [(5, .int s0), (0, .ref a0), (1, .int x1), (2, .int x2), (3, .int x3), (4, .int x4)]) (st' := [.int s0]) (h' := h) 2 rfl trivial ?_
      refine v_if_eq C0 cokX5_sell rfl 85 (by decide) hf (fun _ hf => ?_) (fun _ hf => ?_)
      · refine v_run C0 tbX5 cokX5_sell (pc' := 86) (lv' := [(5, .int s0), (0, .ref a0), (1, .int x1), (2, .int x2), (3, .int x3), (4, .int x4)]) (st' := [.int x1]) (h' := h) 1 rfl trivial ?_
        refine v_pick [1, 3, 4, 5] rfl ?_
        exact n86 h x2 x3 x4 x1 hf
      · refine v_run C0 tbX5 cokX5_sell (pc' := 86) (lv' := [(5, .int s0), (0, .ref a0), (1, .int x1), (2, .int x2), (3, .int x3), (4, .int x4)]) (st' := [.int x3]) (h' := h) 2 rfl trivial ?_
        refine v_pick [1, 3, 4, 5] rfl ?_
        exact n86 h x2 x3 x4 x3 hf
    have n69 : ∀ (h : q_Hp) (x1 : Int32) (x2 : Int32) (x3 : Int32) (x4 : Int32), fX5_sell_69 σ h a0 x1 x2 x3 x4 = some z1 → V p l e { frames := 6, cells := 0, slots := 0, locals := 132 } s m args below meth c (MQ below (q_Qc D cy b0 (some (.int r)) σ h') args s 0 0 (fun q => b0 ≤ q)) D cy b0 6 0 0 0 0 σ h 69 [(0, .ref a0), (1, .int x1), (2, .int x2), (3, .int x3), (4, .int x4)] [] := by
      intro h x1 x2 x3 x4 hf
      unfold fX5_sell_69 at hf
      refine v_run C0 tbX5 cokX5_sell (pc' := 74) (lv' := [(0, .ref a0), (1, .int x1), (2, .int x2), (3, .int x3), (4, .int x4)]) (st' := [.int (1 : Int32)]) (h' := h) 2 rfl trivial ?_
      refine v_pick [0, 1, 2, 3, 4] rfl ?_
      exact n74 h x1 x2 x3 x4 (1 : Int32) hf
    have n73 : ∀ (h : q_Hp) (x1 : Int32) (x2 : Int32) (x3 : Int32) (x4 : Int32), fX5_sell_73 σ h a0 x1 x2 x3 x4 = some z1 → V p l e { frames := 6, cells := 0, slots := 0, locals := 132 } s m args below meth c (MQ below (q_Qc D cy b0 (some (.int r)) σ h') args s 0 0 (fun q => b0 ≤ q)) D cy b0 6 0 0 0 0 σ h 73 [(0, .ref a0), (1, .int x1), (2, .int x2), (3, .int x3), (4, .int x4)] [] := by
      intro h x1 x2 x3 x4 hf
      unfold fX5_sell_73 at hf
      refine v_run C0 tbX5 cokX5_sell (pc' := 74) (lv' := [(0, .ref a0), (1, .int x1), (2, .int x2), (3, .int x3), (4, .int x4)]) (st' := [.int (0 : Int32)]) (h' := h) 1 rfl trivial ?_
      refine v_pick [0, 1, 2, 3, 4] rfl ?_
      exact n74 h x1 x2 x3 x4 (0 : Int32) hf
    refine v_run C0 tbX5 cokX5_sell (pc' := 17) (lv' := [(0, .ref a0), (1, .int x1), (2, .int x2), (3, .int x3)]) (st' := [.int (q_int h a0 0), .int x3]) (h' := h) 3 rfl ⟨ta0, trivial⟩ ?_
    refine v_icmp_ge C0 cokX5_sell rfl 100 (by decide) hf (fun _ hf => ?_) (fun _ hf => ?_)
    · obtain rfl := Option.some.inj hf
      refine v_pick [0, 1] rfl ?_
      have hx := kr1 _ rfl
      subst hx
      exact kx1
    · obtain ⟨g2, hf⟩ := q_gu_o hf
      refine v_run C0 tbX5 cokX5_sell (pc' := 26) (lv' := [(0, .ref a0), (1, .int x1), (2, .int x2), (3, .int x3)]) (st' := [.int (q_int h (q_ref σ a0 5) (Int32.toNatClampNeg x3))]) (h' := h) 4 rfl ⟨⟨ta0, q_tn k0⟩, ⟨k0, g2⟩, trivial⟩ ?_
      refine v_if_ne C0 cokX5_sell rfl 94 (by decide) hf (fun _ hf => ?_) (fun _ hf => ?_)
      · refine v_run C0 tbX5 cokX5_sell (pc' := 37) (lv' := [(0, .ref a0), (1, .int x1), (2, .int x2), (3, .int x3)]) (st' := [.ref a0]) (h' := (q_si h a0 37 ((1 : Int32) <<< (x3 &&& 31)))) 6 rfl ⟨ta0, trivial⟩ ?_
        obtain ⟨r3, h3, e3, hf⟩ := q_bd2 hf
        refine v_callV C0 cokX5_sell rfl (rest := []) (ctX5_earnedNow a0 ta0 e3) calX5_earnedNow lkX5_278 inX5_earnedNow dnX5_earnedNow (ci := 5) ⟨rfl, by decide⟩ ta0 rfl rfl ⟨by decide, by decide⟩ (Nat.le_of_ble_eq_true rfl) (Nat.le_refl _) (Nat.le_refl _) ?_
        refine v_run C0 tbX5 cokX5_sell (pc' := 45) (lv' := [(4, .int r3), (0, .ref a0), (1, .int x1), (2, .int x2), (3, .int x3)]) (st' := [.int x2, .int r3]) (h' := h3) 3 rfl trivial ?_
        refine v_icmp_gt C0 cokX5_sell rfl 69 (by decide) hf (fun _ hf => ?_) (fun _ hf => ?_)
        · refine v_pick [1, 2, 3, 4, 0] rfl ?_
          exact n69 h3 x1 x2 x3 r3 hf
        · refine v_run C0 tbX5 cokX5_sell (pc' := 51) (lv' := [(4, .int r3), (0, .ref a0), (1, .int x1), (2, .int x2), (3, .int x3)]) (st' := [.int x2, .int r3]) (h' := h3) 2 rfl trivial ?_
          refine v_icmp_ne C0 cokX5_sell rfl 73 (by decide) hf (fun _ hf => ?_) (fun _ hf => ?_)
          · obtain ⟨⟨g4, g5⟩, hf⟩ := q_gu_o hf
            refine v_run C0 tbX5 cokX5_sell (pc' := 66) (lv' := [(4, .int r3), (0, .ref a0), (1, .int x1), (2, .int x2), (3, .int x3)]) (st' := [.int (q_int h3 (q_ref σ a0 4) (Int32.toNatClampNeg x1)), .int (q_int h3 (q_ref σ a0 4) (Int32.toNatClampNeg x3))]) (h' := h3) 8 rfl ⟨⟨ta0, q_tn k1⟩, ⟨k1, g4⟩, ⟨ta0, q_tn k1⟩, ⟨k1, g5⟩, trivial⟩ ?_
            refine v_icmp_le C0 cokX5_sell rfl 73 (by decide) hf (fun _ hf => ?_) (fun _ hf => ?_)
            · refine v_pick [1, 2, 3, 4, 0] rfl ?_
              exact n73 h3 x1 x2 x3 r3 hf
            · refine v_pick [1, 2, 3, 4, 0] rfl ?_
              exact n69 h3 x1 x2 x3 r3 hf
          · refine v_pick [1, 2, 3, 4, 0] rfl ?_
            exact n73 h3 x1 x2 x3 r3 hf
      · refine v_pick [0, 1, 2, 3] rfl ?_
        exact n94 h x1 x2 x3 hf
  refine v_run C0 tbX5 cokX5_sell (pc' := 12) (lv' := [(3, .int (0 : Int32)), (2, .int (-1 : Int32)), (1, .int (-4 : Int32)), (0, .ref a0)]) (st' := []) (h' := (q_si h a0 21 (0 : Int32))) 9 rfl ⟨ta0, trivial⟩ ?_
  obtain ⟨o1, eo1, hf⟩ := q_bd hf
  refine v_pick [3, 2, 1, 0] rfl ?_
  refine n12 o1 ((-4 : Int32), (-1 : Int32), (0 : Int32), (q_si h a0 21 (0 : Int32))) eo1 ?_
  refine v_run C0 tbX5 cokX5_sell (pc' := 106) (lv' := [(0, .ref a0), (1, .int o1.1)]) (st' := [.int o1.1]) (h' := (q_si o1.2 a0 37 (0 : Int32))) 4 rfl ⟨ta0, trivial⟩ ?_
  obtain ⟨rfl, rfl⟩ := Prod.mk.inj (Option.some.inj hf)
  exact v_iret C0 cokX5_sell hr hlk rfl
-- BackByNoonOnMondayModel.shines()I
noncomputable def fX5_shines_39 (σ : q_St) (h : q_Hp) (a0 : Nat) (x2 : Int32) (s0 : Int32) (s1 : Int32) : Option ((Int32 × Int32 × q_Hp) ⊕ (Int32 × q_Hp)) := some (Sum.inl ((s1 ||| s0), (x2 + (1 : Int32)), h))
noncomputable def fX5_shines_9 (σ : q_St) (a0 : Nat) (x1 : Int32) (x2 : Int32) (h : q_Hp) : Option ((Int32 × Int32 × q_Hp) ⊕ (Int32 × q_Hp)) := (if (q_int h a0 0) ≤ x2 then some (Sum.inr (x1, h)) else q_gu ((vp_in x2 (q_len σ (q_ref σ a0 4)))) (((fX5_lastsOf σ h a0 x2).bind fun r3 => (if (q_int h (q_ref σ a0 4) (Int32.toNatClampNeg x2)) ≤ r3 then fX5_shines_39 σ h a0 x2 (0 : Int32) x1 else fX5_shines_39 σ h a0 x2 ((1 : Int32) <<< (x2 &&& 31)) x1))))
noncomputable def fX5_shines (σ : q_St) (h : q_Hp) (a0 : Nat) : Option (Int32 × q_Hp) := q_gu ((q_tag σ (q_ref σ a0 4) = 7)) ((q_loop (fun s => fX5_shines_9 σ a0 s.1 s.2.1 s.2.2) q_N ((0 : Int32), (0 : Int32), (q_si h a0 21 (0 : Int32)))).bind fun o1 => some (o1.1, o1.2))
def cdX5_shines : q_Cd := [(0, .aload_n 0), (1, .iconst 0), (2, .putfield 89), (5, .iconst 0), (6, .istore_n 1), (7, .iconst 0), (8, .istore_n 2), (9, .iload_n 2), (10, .aload_n 0), (11, .getfield 93), (14, .if_icmp .ge 33), (17, .iload_n 1), (18, .aload_n 0), (19, .getfield 19), (22, .iload_n 2), (23, .iaload), (24, .aload_n 0), (25, .iload_n 2), (26, .invokevirtual 226), (29, .if_icmp .le 9), (32, .iconst 1), (33, .iload_n 2), (34, .ishl), (35, .goto 4), (38, .iconst 0), (39, .ior), (40, .istore_n 1), (41, .iinc 2 1), (44, .goto (-35)), (47, .iload_n 1), (48, .ireturn)]
set_option maxRecDepth 100000 in
theorem cokX5_shines : q_cok cX5_shines cdX5_shines := by unfold q_cok; decide +kernel
set_option maxRecDepth 100000 in
set_option maxHeartbeats 4000000 in
theorem ctX5_shines {l : Launch} {D : va_G} {cy : Nat → Nat} {b0 : Nat} {σ : q_St} {h : q_Hp} (a0 : Nat) {r : Int32} {h' : q_Hp} (ta0 : q_tag σ a0 = 6) (hf : fX5_shines σ h a0 = some (r, h')) : q_M l yX5_shines cX5_shines 3 (some .int) 1 21 0 0 D cy b0 σ h [.ref a0] (some (.int r)) σ h' := by
  unfold fX5_shines at hf
  obtain ⟨k0, hf⟩ := q_gu_o hf
  refine q_enter (by decide) (Nat.le_of_ble_eq_true rfl) ?_
  intro p e s m args below meth c C0 hr hlk hnm
  replace C0 : VC p { frames := 1, cells := 0, slots := 0, locals := 21 } s m args meth c D cy b0 3 0 0 RX5 cX5_shines := C0
  have n9 : ∀ (o : (Int32 × q_Hp)) (s1 : (Int32 × Int32 × q_Hp)), q_loop (fun s => fX5_shines_9 σ a0 s.1 s.2.1 s.2.2) q_N s1 = some o → V p l e { frames := 1, cells := 0, slots := 0, locals := 21 } s m args below meth c (MQ below (q_Qc D cy b0 (some (.int r)) σ h') args s 0 0 (fun q => b0 ≤ q)) D cy b0 3 0 0 0 0 σ o.2 47 [(1, .int o.1)] [] → V p l e { frames := 1, cells := 0, slots := 0, locals := 21 } s m args below meth c (MQ below (q_Qc D cy b0 (some (.int r)) σ h') args s 0 0 (fun q => b0 ≤ q)) D cy b0 3 0 0 0 0 σ s1.2.2 9 [(0, .ref a0), (1, .int s1.1), (2, .int s1.2.1)] [] := by
    intro o s1 ho kx1
    refine q_loop_V (P := fun s0 => V p l e { frames := 1, cells := 0, slots := 0, locals := 21 } s m args below meth c (MQ below (q_Qc D cy b0 (some (.int r)) σ h') args s 0 0 (fun q => b0 ≤ q)) D cy b0 3 0 0 0 0 σ s0.2.2 9 [(0, .ref a0), (1, .int s0.1), (2, .int s0.2.1)] []) (o := o) ?_ q_N s1 ho
    intro s2 z1 hf kb1 kr1
    obtain ⟨x1, x2, h⟩ := s2
    replace hf : fX5_shines_9 σ a0 x1 x2 h = some z1 := hf
    unfold fX5_shines_9 at hf
    show V p l e { frames := 1, cells := 0, slots := 0, locals := 21 } s m args below meth c (MQ below (q_Qc D cy b0 (some (.int r)) σ h') args s 0 0 (fun q => b0 ≤ q)) D cy b0 3 0 0 0 0 σ h 9 [(0, .ref a0), (1, .int x1), (2, .int x2)] []
    have n39 : ∀ (h : q_Hp) (x2 : Int32) (s0 : Int32) (s1 : Int32), fX5_shines_39 σ h a0 x2 s0 s1 = some z1 → V p l e { frames := 1, cells := 0, slots := 0, locals := 21 } s m args below meth c (MQ below (q_Qc D cy b0 (some (.int r)) σ h') args s 0 0 (fun q => b0 ≤ q)) D cy b0 3 0 0 0 0 σ h 39 [(0, .ref a0), (2, .int x2)] [.int s0, .int s1] := by
      intro h x2 s0 s1 hf
      unfold fX5_shines_39 at hf
      refine v_run C0 tbX5 cokX5_shines (pc' := 9) (lv' := [(2, .int (x2 + (1 : Int32))), (1, .int (s1 ||| s0)), (0, .ref a0)]) (st' := []) (h' := h) 4 rfl trivial ?_
      obtain rfl := Option.some.inj hf
      refine v_pick [2, 1, 0] rfl ?_
      exact kb1 _ rfl
    refine v_run C0 tbX5 cokX5_shines (pc' := 14) (lv' := [(0, .ref a0), (1, .int x1), (2, .int x2)]) (st' := [.int (q_int h a0 0), .int x2]) (h' := h) 3 rfl ⟨ta0, trivial⟩ ?_
    refine v_icmp_ge C0 cokX5_shines rfl 47 (by decide) hf (fun _ hf => ?_) (fun _ hf => ?_)
    · obtain rfl := Option.some.inj hf
      refine v_pick [1] rfl ?_
      have hx := kr1 _ rfl
      subst hx
      exact kx1
    · obtain ⟨g2, hf⟩ := q_gu_o hf
      refine v_run C0 tbX5 cokX5_shines (pc' := 26) (lv' := [(0, .ref a0), (1, .int x1), (2, .int x2)]) (st' := [.int x2, .ref a0, .int (q_int h (q_ref σ a0 4) (Int32.toNatClampNeg x2)), .int x1]) (h' := h) 7 rfl ⟨⟨ta0, q_tn k0⟩, ⟨k0, g2⟩, trivial⟩ ?_
      obtain ⟨r3, e3, hf⟩ := q_bd hf
      refine v_callV C0 cokX5_shines rfl (rest := [.int (q_int h (q_ref σ a0 4) (Int32.toNatClampNeg x2)), .int x1]) (ctX5_lastsOf a0 x2 ta0 e3) calX5_lastsOf lkX5_226 inX5_lastsOf dnX5_lastsOf (ci := 5) ⟨rfl, by decide⟩ ta0 rfl rfl ⟨by decide, by decide⟩ (Nat.le_of_ble_eq_true rfl) (Nat.le_refl _) (Nat.le_refl _) ?_
      refine v_icmp_le C0 cokX5_shines rfl 38 (by decide) hf (fun _ hf => ?_) (fun _ hf => ?_)
      · refine v_run C0 tbX5 cokX5_shines (pc' := 39) (lv' := [(0, .ref a0), (1, .int x1), (2, .int x2)]) (st' := [.int (0 : Int32), .int x1]) (h' := h) 1 rfl trivial ?_
        refine v_pick [0, 2] rfl ?_
        exact n39 h x2 (0 : Int32) x1 hf
      · refine v_run C0 tbX5 cokX5_shines (pc' := 39) (lv' := [(0, .ref a0), (1, .int x1), (2, .int x2)]) (st' := [.int ((1 : Int32) <<< (x2 &&& 31)), .int x1]) (h' := h) 4 rfl trivial ?_
        refine v_pick [0, 2] rfl ?_
        exact n39 h x2 ((1 : Int32) <<< (x2 &&& 31)) x1 hf
  refine v_run C0 tbX5 cokX5_shines (pc' := 9) (lv' := [(2, .int (0 : Int32)), (1, .int (0 : Int32)), (0, .ref a0)]) (st' := []) (h' := (q_si h a0 21 (0 : Int32))) 7 rfl ⟨ta0, trivial⟩ ?_
  obtain ⟨o1, eo1, hf⟩ := q_bd hf
  refine v_pick [2, 1, 0] rfl ?_
  refine n9 o1 ((0 : Int32), (0 : Int32), (q_si h a0 21 (0 : Int32))) eo1 ?_
  refine v_run C0 tbX5 cokX5_shines (pc' := 48) (lv' := [(1, .int o1.1)]) (st' := [.int o1.1]) (h' := o1.2) 1 rfl trivial ?_
  obtain ⟨rfl, rfl⟩ := Prod.mk.inj (Option.some.inj hf)
  exact v_iret C0 cokX5_shines hr hlk rfl
-- BackByNoonOnMondayModel.skipped(I)J
noncomputable def fX5_skipped (σ : q_St) (h : q_Hp) (a0 : Nat) (x1 : Int32) : Option Int64 := q_gu ((q_tag σ (q_ref σ a0 18) = 7)) (q_gu ((vp_in x1 (q_len σ (q_ref σ a0 18)))) ((if (q_int h (q_ref σ a0 18) (Int32.toNatClampNeg x1)) = 0 then some (-128 : Int64) else (if (q_int h (q_ref σ a0 18) (Int32.toNatClampNeg x1)) = (1 : Int32) then some (-32768 : Int64) else some (-2147483648 : Int64)))))
def cdX5_skipped : q_Cd := [(0, .aload_n 0), (1, .getfield 52), (4, .iload_n 1), (5, .iaload), (6, .ifCond .ne 9), (9, .ldc2_w 300), (12, .goto 22), (15, .aload_n 0), (16, .getfield 52), (19, .iload_n 1), (20, .iaload), (21, .iconst 1), (22, .if_icmp .ne 9), (25, .ldc2_w 302), (28, .goto 6), (31, .ldc2_w 304), (34, .lreturn)]
set_option maxRecDepth 100000 in
theorem cokX5_skipped : q_cok cX5_skipped cdX5_skipped := by unfold q_cok; decide +kernel
set_option maxRecDepth 100000 in
set_option maxHeartbeats 4000000 in
theorem ctX5_skipped {l : Launch} {D : va_G} {cy : Nat → Nat} {b0 : Nat} {σ : q_St} {h : q_Hp} (a0 : Nat) (x1 : Int32) {r : Int64} (ta0 : q_tag σ a0 = 6) (hf : fX5_skipped σ h a0 x1 = some r) : q_M l yX5_skipped cX5_skipped 2 (some .long) 0 0 0 0 D cy b0 σ h [.ref a0, .int x1] (some (.long r)) σ h := by
  unfold fX5_skipped at hf
  obtain ⟨k0, hf⟩ := q_gu_o hf
  refine q_enter (by decide) (Nat.le_of_ble_eq_true rfl) ?_
  intro p e s m args below meth c C0 hr hlk hnm
  replace C0 : VC p { frames := 0, cells := 0, slots := 0, locals := 0 } s m args meth c D cy b0 2 0 0 RX5 cX5_skipped := C0
  obtain ⟨g1, hf⟩ := q_gu_o hf
  refine v_run C0 tbX5 cokX5_skipped (pc' := 6) (lv' := [(0, .ref a0), (1, .int x1)]) (st' := [.int (q_int h (q_ref σ a0 18) (Int32.toNatClampNeg x1))]) (h' := h) 4 rfl ⟨⟨ta0, q_tn k0⟩, ⟨k0, g1⟩, trivial⟩ ?_
  refine v_if_ne C0 cokX5_skipped rfl 15 (by decide) hf (fun _ hf => ?_) (fun _ hf => ?_)
  · refine v_run C0 tbX5 cokX5_skipped (pc' := 34) (lv' := [(0, .ref a0), (1, .int x1)]) (st' := [.long (-128 : Int64)]) (h' := h) 2 rfl trivial ?_
    obtain rfl := Option.some.inj hf
    exact v_lret C0 cokX5_skipped hr hlk rfl
  · refine v_run C0 tbX5 cokX5_skipped (pc' := 22) (lv' := [(0, .ref a0), (1, .int x1)]) (st' := [.int (1 : Int32), .int (q_int h (q_ref σ a0 18) (Int32.toNatClampNeg x1))]) (h' := h) 5 rfl ⟨⟨ta0, q_tn k0⟩, ⟨k0, g1⟩, trivial⟩ ?_
    refine v_icmp_ne C0 cokX5_skipped rfl 31 (by decide) hf (fun _ hf => ?_) (fun _ hf => ?_)
    · refine v_run C0 tbX5 cokX5_skipped (pc' := 34) (lv' := [(0, .ref a0), (1, .int x1)]) (st' := [.long (-32768 : Int64)]) (h' := h) 2 rfl trivial ?_
      obtain rfl := Option.some.inj hf
      exact v_lret C0 cokX5_skipped hr hlk rfl
    · refine v_run C0 tbX5 cokX5_skipped (pc' := 34) (lv' := [(0, .ref a0), (1, .int x1)]) (st' := [.long (-2147483648 : Int64)]) (h' := h) 1 rfl trivial ?_
      obtain rfl := Option.some.inj hf
      exact v_lret C0 cokX5_skipped hr hlk rfl
-- BackByNoonOnMondayModel.toldHour(II)J
noncomputable def fX5_toldHour (σ : q_St) (h : q_Hp) (a0 : Nat) (x1 : Int32) (x2 : Int32) : Option Int64 := q_gu ((q_tag σ (q_ref σ a0 19) = 7) ∧ (q_tag σ (q_ref σ a0 20) = 8)) (q_gu ((vp_in x1 (q_len σ (q_ref σ a0 19)))) ((if (q_int h (q_ref σ a0 19) (Int32.toNatClampNeg x1)) ≤ x2 then ((fX5_skipped σ h a0 x1).bind fun r2 => some r2) else q_gu ((vp_in (((100 : Int32) * x1) + x2) (q_len σ (q_ref σ a0 20)))) (some (q_lng h (q_ref σ a0 20) (Int32.toNatClampNeg (((100 : Int32) * x1) + x2)))))))
def cdX5_toldHour : q_Cd := [(0, .iload_n 2), (1, .aload_n 0), (2, .getfield 55), (5, .iload_n 1), (6, .iaload), (7, .if_icmp .ge 17), (10, .aload_n 0), (11, .getfield 58), (14, .bipush 100), (16, .iload_n 1), (17, .imul), (18, .iload_n 2), (19, .iadd), (20, .laload), (21, .goto 8), (24, .aload_n 0), (25, .iload_n 1), (26, .invokevirtual 306), (29, .lreturn)]
set_option maxRecDepth 100000 in
theorem cokX5_toldHour : q_cok cX5_toldHour cdX5_toldHour := by unfold q_cok; decide +kernel
set_option maxRecDepth 100000 in
set_option maxHeartbeats 4000000 in
theorem ctX5_toldHour {l : Launch} {D : va_G} {cy : Nat → Nat} {b0 : Nat} {σ : q_St} {h : q_Hp} (a0 : Nat) (x1 : Int32) (x2 : Int32) {r : Int64} (ta0 : q_tag σ a0 = 6) (hf : fX5_toldHour σ h a0 x1 x2 = some r) : q_M l yX5_toldHour cX5_toldHour 3 (some .long) 1 21 0 0 D cy b0 σ h [.ref a0, .int x1, .int x2] (some (.long r)) σ h := by
  unfold fX5_toldHour at hf
  obtain ⟨⟨k0, k1⟩, hf⟩ := q_gu_o hf
  refine q_enter (by decide) (Nat.le_of_ble_eq_true rfl) ?_
  intro p e s m args below meth c C0 hr hlk hnm
  replace C0 : VC p { frames := 1, cells := 0, slots := 0, locals := 21 } s m args meth c D cy b0 3 0 0 RX5 cX5_toldHour := C0
  obtain ⟨g1, hf⟩ := q_gu_o hf
  refine v_run C0 tbX5 cokX5_toldHour (pc' := 7) (lv' := [(0, .ref a0), (1, .int x1), (2, .int x2)]) (st' := [.int (q_int h (q_ref σ a0 19) (Int32.toNatClampNeg x1)), .int x2]) (h' := h) 5 rfl ⟨⟨ta0, q_tn k0⟩, ⟨k0, g1⟩, trivial⟩ ?_
  refine v_icmp_ge C0 cokX5_toldHour rfl 24 (by decide) hf (fun _ hf => ?_) (fun _ hf => ?_)
  · refine v_run C0 tbX5 cokX5_toldHour (pc' := 26) (lv' := [(0, .ref a0), (1, .int x1), (2, .int x2)]) (st' := [.int x1, .ref a0]) (h' := h) 2 rfl trivial ?_
    obtain ⟨r2, e2, hf⟩ := q_bd hf
    refine v_callV C0 cokX5_toldHour rfl (rest := []) (ctX5_skipped a0 x1 ta0 e2) calX5_skipped lkX5_306 inX5_skipped dnX5_skipped (ci := 5) ⟨rfl, by decide⟩ ta0 rfl rfl ⟨by decide, by decide⟩ (Nat.le_of_ble_eq_true rfl) (Nat.le_refl _) (Nat.le_refl _) ?_
    obtain rfl := Option.some.inj hf
    exact v_lret C0 cokX5_toldHour hr hlk rfl
  · obtain ⟨g3, hf⟩ := q_gu_o hf
    refine v_run C0 tbX5 cokX5_toldHour (pc' := 29) (lv' := [(0, .ref a0), (1, .int x1), (2, .int x2)]) (st' := [.long (q_lng h (q_ref σ a0 20) (Int32.toNatClampNeg (((100 : Int32) * x1) + x2)))]) (h' := h) 9 rfl ⟨⟨ta0, q_tn k1⟩, ⟨k1, g3⟩, trivial⟩ ?_
    obtain rfl := Option.some.inj hf
    exact v_lret C0 cokX5_toldHour hr hlk rfl
-- BackByNoonOnMondayModel.wrongHours(I)I
noncomputable def fX5_wrongHours_88 (σ : q_St) (h : q_Hp) (a0 : Nat) (x1 : Int32) (x3 : Int32) (s0 : Int32) : Option ((Int32 × Int32) ⊕ Int32) := some (Sum.inl (s0, (x3 + (1 : Int32))))
noncomputable def fX5_wrongHours_82 (σ : q_St) (h : q_Hp) (a0 : Nat) (x1 : Int32) (x3 : Int32) : Option ((Int32 × Int32) ⊕ Int32) := fX5_wrongHours_88 σ h a0 x1 x3 (0 : Int32)
noncomputable def fX5_wrongHours_32 (σ : q_St) (h : q_Hp) (a0 : Nat) (x1 : Int32) (x2 : Int32) (x3 : Int32) : Option ((Int32 × Int32) ⊕ Int32) := (if x2 = 0 then q_gu ((vp_in x1 (q_len σ (q_ref σ a0 19)))) ((if (q_int h (q_ref σ a0 19) (Int32.toNatClampNeg x1)) ≤ x3 then some (Sum.inr x2) else q_gu ((vp_in (((100 : Int32) * x1) + x3) (q_len σ (q_ref σ a0 20)))) (((fX5_skipped σ h a0 x1).bind fun r6 => (if (lg_cmp (q_lng h (q_ref σ a0 20) (Int32.toNatClampNeg (((100 : Int32) * x1) + x3))) r6) = 0 then fX5_wrongHours_82 σ h a0 x1 x3 else ((fX5_in σ h (q_lng h (q_ref σ a0 20) (Int32.toNatClampNeg (((100 : Int32) * x1) + x3))) (0 : Int64) (99 : Int64)).bind fun r7 => (if r7 = 0 then fX5_wrongHours_88 σ h a0 x1 x3 (-13 : Int32) else fX5_wrongHours_82 σ h a0 x1 x3))))))) else some (Sum.inr x2))
noncomputable def fX5_wrongHours_29 (σ : q_St) (h : q_Hp) (a0 : Nat) (x1 : Int32) (s0 : Int32) : Option Int32 := (q_loop (fun s => fX5_wrongHours_32 σ h a0 x1 s.1 s.2) q_N (s0, (0 : Int32))).bind fun o3 => some o3
noncomputable def fX5_wrongHours_28 (σ : q_St) (h : q_Hp) (a0 : Nat) (x1 : Int32) (x2 : Int32) : Option Int32 := fX5_wrongHours_29 σ h a0 x1 x2
noncomputable def fX5_wrongHours (σ : q_St) (h : q_Hp) (a0 : Nat) (x1 : Int32) : Option Int32 := q_gu ((q_tag σ (q_ref σ a0 19) = 7) ∧ (q_tag σ (q_ref σ a0 20) = 8)) (((fX5_wrongRow σ h a0 x1).bind fun r1 => (if r1 = 0 then q_gu ((vp_in x1 (q_len σ (q_ref σ a0 19)))) ((if (q_int h (q_ref σ a0 19) (Int32.toNatClampNeg x1)) ≤ (q_int h a0 0) then fX5_wrongHours_28 σ h a0 x1 r1 else fX5_wrongHours_29 σ h a0 x1 (-13 : Int32))) else fX5_wrongHours_28 σ h a0 x1 r1)))
def cdX5_wrongHours : q_Cd := [(0, .aload_n 0), (1, .iload_n 1), (2, .invokevirtual 192), (5, .istore_n 2), (6, .iload_n 2), (7, .ifCond .ne 21), (10, .aload_n 0), (11, .getfield 55), (14, .iload_n 1), (15, .iaload), (16, .aload_n 0), (17, .getfield 93), (20, .if_icmp .le 8), (23, .bipush (-13)), (25, .goto 4), (28, .iload_n 2), (29, .istore_n 2), (30, .iconst 0), (31, .istore_n 3), (32, .iload_n 2), (33, .ifCond .ne 62), (36, .iload_n 3), (37, .aload_n 0), (38, .getfield 55), (41, .iload_n 1), (42, .iaload), (43, .if_icmp .ge 52), (46, .aload_n 0), (47, .getfield 58), (50, .bipush 100), (52, .iload_n 1), (53, .imul), (54, .iload_n 3), (55, .iadd), (56, .laload), (57, .lstore 4), (59, .lload 4), (61, .aload_n 0), (62, .iload_n 1), (63, .invokevirtual 306), (66, .lcmp), (67, .ifCond .eq 15), (70, .lload 4), (72, .lconst 0), (73, .ldc2_w 310), (76, .invokestatic 96), (79, .ifCond .eq 7), (82, .iconst 0), (83, .goto 5), (86, .bipush (-13)), (88, .istore_n 2), (89, .iinc 3 1), (92, .goto (-60)), (95, .iload_n 2), (96, .ireturn)]
set_option maxRecDepth 100000 in
theorem cokX5_wrongHours : q_cok cX5_wrongHours cdX5_wrongHours := by unfold q_cok; decide +kernel
set_option maxRecDepth 100000 in
set_option maxHeartbeats 4000000 in
theorem ctX5_wrongHours {l : Launch} {D : va_G} {cy : Nat → Nat} {b0 : Nat} {σ : q_St} {h : q_Hp} (a0 : Nat) (x1 : Int32) {r : Int32} (ta0 : q_tag σ a0 = 6) (hf : fX5_wrongHours σ h a0 x1 = some r) : q_M l yX5_wrongHours cX5_wrongHours 6 (some .int) 2 46 0 0 D cy b0 σ h [.ref a0, .int x1] (some (.int r)) σ h := by
  unfold fX5_wrongHours at hf
  obtain ⟨⟨k0, k1⟩, hf⟩ := q_gu_o hf
  refine q_enter (by decide) (Nat.le_of_ble_eq_true rfl) ?_
  intro p e s m args below meth c C0 hr hlk hnm
  replace C0 : VC p { frames := 2, cells := 0, slots := 0, locals := 46 } s m args meth c D cy b0 6 0 0 RX5 cX5_wrongHours := C0
  have n32 : ∀ (o : Int32) (s1 : (Int32 × Int32)), q_loop (fun s => fX5_wrongHours_32 σ h a0 x1 s.1 s.2) q_N s1 = some o → V p l e { frames := 2, cells := 0, slots := 0, locals := 46 } s m args below meth c (MQ below (q_Qc D cy b0 (some (.int r)) σ h) args s 0 0 (fun q => b0 ≤ q)) D cy b0 6 0 0 0 0 σ h 95 [(2, .int o)] [] → V p l e { frames := 2, cells := 0, slots := 0, locals := 46 } s m args below meth c (MQ below (q_Qc D cy b0 (some (.int r)) σ h) args s 0 0 (fun q => b0 ≤ q)) D cy b0 6 0 0 0 0 σ h 32 [(0, .ref a0), (1, .int x1), (2, .int s1.1), (3, .int s1.2)] [] := by
    intro o s1 ho kx1
    refine q_loop_V (P := fun s0 => V p l e { frames := 2, cells := 0, slots := 0, locals := 46 } s m args below meth c (MQ below (q_Qc D cy b0 (some (.int r)) σ h) args s 0 0 (fun q => b0 ≤ q)) D cy b0 6 0 0 0 0 σ h 32 [(0, .ref a0), (1, .int x1), (2, .int s0.1), (3, .int s0.2)] []) (o := o) ?_ q_N s1 ho
    intro s2 z1 hf kb1 kr1
    obtain ⟨x2, x3⟩ := s2
    replace hf : fX5_wrongHours_32 σ h a0 x1 x2 x3 = some z1 := hf
    unfold fX5_wrongHours_32 at hf
    show V p l e { frames := 2, cells := 0, slots := 0, locals := 46 } s m args below meth c (MQ below (q_Qc D cy b0 (some (.int r)) σ h) args s 0 0 (fun q => b0 ≤ q)) D cy b0 6 0 0 0 0 σ h 32 [(0, .ref a0), (1, .int x1), (2, .int x2), (3, .int x3)] []
    have n88 : ∀ (x3 : Int32) (s0 : Int32), fX5_wrongHours_88 σ h a0 x1 x3 s0 = some z1 → V p l e { frames := 2, cells := 0, slots := 0, locals := 46 } s m args below meth c (MQ below (q_Qc D cy b0 (some (.int r)) σ h) args s 0 0 (fun q => b0 ≤ q)) D cy b0 6 0 0 0 0 σ h 88 [(0, .ref a0), (1, .int x1), (3, .int x3)] [.int s0] := by
      intro x3 s0 hf
      unfold fX5_wrongHours_88 at hf
      refine v_run C0 tbX5 cokX5_wrongHours (pc' := 32) (lv' := [(3, .int (x3 + (1 : Int32))), (2, .int s0), (0, .ref a0), (1, .int x1)]) (st' := []) (h' := h) 3 rfl trivial ?_
      obtain rfl := Option.some.inj hf
      refine v_pick [2, 3, 1, 0] rfl ?_
      exact kb1 _ rfl
    have n82 : ∀ (x3 : Int32), fX5_wrongHours_82 σ h a0 x1 x3 = some z1 → V p l e { frames := 2, cells := 0, slots := 0, locals := 46 } s m args below meth c (MQ below (q_Qc D cy b0 (some (.int r)) σ h) args s 0 0 (fun q => b0 ≤ q)) D cy b0 6 0 0 0 0 σ h 82 [(0, .ref a0), (1, .int x1), (3, .int x3)] [] := by
      intro x3 hf
      unfold fX5_wrongHours_82 at hf
      refine v_run C0 tbX5 cokX5_wrongHours (pc' := 88) (lv' := [(0, .ref a0), (1, .int x1), (3, .int x3)]) (st' := [.int (0 : Int32)]) (h' := h) 2 rfl trivial ?_
      refine v_pick [0, 1, 2] rfl ?_
      exact n88 x3 (0 : Int32) hf
    refine v_run C0 tbX5 cokX5_wrongHours (pc' := 33) (lv' := [(0, .ref a0), (1, .int x1), (2, .int x2), (3, .int x3)]) (st' := [.int x2]) (h' := h) 1 rfl trivial ?_
    refine v_if_ne C0 cokX5_wrongHours rfl 95 (by decide) hf (fun _ hf => ?_) (fun _ hf => ?_)
    · obtain ⟨g4, hf⟩ := q_gu_o hf
      refine v_run C0 tbX5 cokX5_wrongHours (pc' := 43) (lv' := [(0, .ref a0), (1, .int x1), (2, .int x2), (3, .int x3)]) (st' := [.int (q_int h (q_ref σ a0 19) (Int32.toNatClampNeg x1)), .int x3]) (h' := h) 5 rfl ⟨⟨ta0, q_tn k0⟩, ⟨k0, g4⟩, trivial⟩ ?_
      refine v_icmp_ge C0 cokX5_wrongHours rfl 95 (by decide) hf (fun _ hf => ?_) (fun _ hf => ?_)
      · obtain rfl := Option.some.inj hf
        refine v_pick [2] rfl ?_
        have hx := kr1 _ rfl
        subst hx
        exact kx1
      · obtain ⟨g5, hf⟩ := q_gu_o hf
        refine v_run C0 tbX5 cokX5_wrongHours (pc' := 63) (lv' := [(4, .long (q_lng h (q_ref σ a0 20) (Int32.toNatClampNeg (((100 : Int32) * x1) + x3)))), (0, .ref a0), (1, .int x1), (2, .int x2), (3, .int x3)]) (st' := [.int x1, .ref a0, .long (q_lng h (q_ref σ a0 20) (Int32.toNatClampNeg (((100 : Int32) * x1) + x3)))]) (h' := h) 12 rfl ⟨⟨ta0, q_tn k1⟩, ⟨k1, g5⟩, trivial⟩ ?_
        obtain ⟨r6, e6, hf⟩ := q_bd hf
        refine v_callV C0 cokX5_wrongHours rfl (rest := [.long (q_lng h (q_ref σ a0 20) (Int32.toNatClampNeg (((100 : Int32) * x1) + x3)))]) (ctX5_skipped a0 x1 ta0 e6) calX5_skipped lkX5_306 inX5_skipped dnX5_skipped (ci := 5) ⟨rfl, by decide⟩ ta0 rfl rfl ⟨by decide, by decide⟩ (Nat.le_of_ble_eq_true rfl) (Nat.le_refl _) (Nat.le_refl _) ?_
        refine v_run C0 tbX5 cokX5_wrongHours (pc' := 67) (lv' := [(4, .long (q_lng h (q_ref σ a0 20) (Int32.toNatClampNeg (((100 : Int32) * x1) + x3)))), (0, .ref a0), (1, .int x1), (2, .int x2), (3, .int x3)]) (st' := [.int (lg_cmp (q_lng h (q_ref σ a0 20) (Int32.toNatClampNeg (((100 : Int32) * x1) + x3))) r6)]) (h' := h) 1 rfl trivial ?_
        refine v_if_eq C0 cokX5_wrongHours rfl 82 (by decide) hf (fun _ hf => ?_) (fun _ hf => ?_)
        · refine v_pick [1, 2, 4] rfl ?_
          exact n82 x3 hf
        · refine v_run C0 tbX5 cokX5_wrongHours (pc' := 76) (lv' := [(4, .long (q_lng h (q_ref σ a0 20) (Int32.toNatClampNeg (((100 : Int32) * x1) + x3)))), (0, .ref a0), (1, .int x1), (2, .int x2), (3, .int x3)]) (st' := [.long (99 : Int64), .long (0 : Int64), .long (q_lng h (q_ref σ a0 20) (Int32.toNatClampNeg (((100 : Int32) * x1) + x3)))]) (h' := h) 3 rfl trivial ?_
          obtain ⟨r7, e7, hf⟩ := q_bd hf
          refine v_callS C0 cokX5_wrongHours rfl (rest := []) (ctX5_in (q_lng h (q_ref σ a0 20) (Int32.toNatClampNeg (((100 : Int32) * x1) + x3))) (0 : Int64) (99 : Int64) e7) calX5_in lkX5_96 inX5_in dnX5_in rfl rfl ⟨by decide, by decide⟩ (Nat.le_of_ble_eq_true rfl) (Nat.le_refl _) (Nat.le_refl _) ?_
          refine v_if_eq C0 cokX5_wrongHours rfl 86 (by decide) hf (fun _ hf => ?_) (fun _ hf => ?_)
          · refine v_run C0 tbX5 cokX5_wrongHours (pc' := 88) (lv' := [(4, .long (q_lng h (q_ref σ a0 20) (Int32.toNatClampNeg (((100 : Int32) * x1) + x3)))), (0, .ref a0), (1, .int x1), (2, .int x2), (3, .int x3)]) (st' := [.int (-13 : Int32)]) (h' := h) 1 rfl trivial ?_
            refine v_pick [1, 2, 4] rfl ?_
            exact n88 x3 (-13 : Int32) hf
          · refine v_pick [1, 2, 4] rfl ?_
            exact n82 x3 hf
    · obtain rfl := Option.some.inj hf
      refine v_pick [2] rfl ?_
      have hx := kr1 _ rfl
      subst hx
      exact kx1
  have n29 : ∀ (s0 : Int32), fX5_wrongHours_29 σ h a0 x1 s0 = some r → V p l e { frames := 2, cells := 0, slots := 0, locals := 46 } s m args below meth c (MQ below (q_Qc D cy b0 (some (.int r)) σ h) args s 0 0 (fun q => b0 ≤ q)) D cy b0 6 0 0 0 0 σ h 29 [(0, .ref a0), (1, .int x1)] [.int s0] := by
    intro s0 hf
    unfold fX5_wrongHours_29 at hf
    refine v_run C0 tbX5 cokX5_wrongHours (pc' := 32) (lv' := [(3, .int (0 : Int32)), (2, .int s0), (0, .ref a0), (1, .int x1)]) (st' := []) (h' := h) 3 rfl trivial ?_
    obtain ⟨o3, eo3, hf⟩ := q_bd hf
    refine v_pick [2, 3, 1, 0] rfl ?_
    refine n32 o3 (s0, (0 : Int32)) eo3 ?_
    refine v_run C0 tbX5 cokX5_wrongHours (pc' := 96) (lv' := [(2, .int o3)]) (st' := [.int o3]) (h' := h) 1 rfl trivial ?_
    obtain rfl := Option.some.inj hf
    exact v_iret C0 cokX5_wrongHours hr hlk rfl
  have n28 : ∀ (x2 : Int32), fX5_wrongHours_28 σ h a0 x1 x2 = some r → V p l e { frames := 2, cells := 0, slots := 0, locals := 46 } s m args below meth c (MQ below (q_Qc D cy b0 (some (.int r)) σ h) args s 0 0 (fun q => b0 ≤ q)) D cy b0 6 0 0 0 0 σ h 28 [(0, .ref a0), (1, .int x1), (2, .int x2)] [] := by
    intro x2 hf
    unfold fX5_wrongHours_28 at hf
    refine v_run C0 tbX5 cokX5_wrongHours (pc' := 29) (lv' := [(0, .ref a0), (1, .int x1), (2, .int x2)]) (st' := [.int x2]) (h' := h) 1 rfl trivial ?_
    refine v_pick [0, 1] rfl ?_
    exact n29 x2 hf
  refine v_run C0 tbX5 cokX5_wrongHours (pc' := 2) (lv' := [(0, .ref a0), (1, .int x1)]) (st' := [.int x1, .ref a0]) (h' := h) 2 rfl trivial ?_
  obtain ⟨r1, e1, hf⟩ := q_bd hf
  refine v_callV C0 cokX5_wrongHours rfl (rest := []) (ctX5_wrongRow a0 x1 ta0 e1) calX5_wrongRow lkX5_192 inX5_wrongRow dnX5_wrongRow (ci := 5) ⟨rfl, by decide⟩ ta0 rfl rfl ⟨by decide, by decide⟩ (Nat.le_of_ble_eq_true rfl) (Nat.le_refl _) (Nat.le_refl _) ?_
  refine v_run C0 tbX5 cokX5_wrongHours (pc' := 7) (lv' := [(2, .int r1), (0, .ref a0), (1, .int x1)]) (st' := [.int r1]) (h' := h) 2 rfl trivial ?_
  refine v_if_ne C0 cokX5_wrongHours rfl 28 (by decide) hf (fun _ hf => ?_) (fun _ hf => ?_)
  · obtain ⟨g2, hf⟩ := q_gu_o hf
    refine v_run C0 tbX5 cokX5_wrongHours (pc' := 20) (lv' := [(2, .int r1), (0, .ref a0), (1, .int x1)]) (st' := [.int (q_int h a0 0), .int (q_int h (q_ref σ a0 19) (Int32.toNatClampNeg x1))]) (h' := h) 6 rfl ⟨⟨ta0, q_tn k0⟩, ⟨k0, g2⟩, ta0, trivial⟩ ?_
    refine v_icmp_le C0 cokX5_wrongHours rfl 28 (by decide) hf (fun _ hf => ?_) (fun _ hf => ?_)
    · refine v_pick [1, 2, 0] rfl ?_
      exact n28 r1 hf
    · refine v_run C0 tbX5 cokX5_wrongHours (pc' := 29) (lv' := [(2, .int r1), (0, .ref a0), (1, .int x1)]) (st' := [.int (-13 : Int32)]) (h' := h) 2 rfl trivial ?_
      refine v_pick [1, 2] rfl ?_
      exact n29 (-13 : Int32) hf
  · refine v_pick [1, 2, 0] rfl ?_
    exact n28 r1 hf
-- BackByNoonOnMondayModel.isReady(II)Z
noncomputable def fX5_isReady_87 (σ : q_St) (h : q_Hp) (a0 : Nat) (x1 : Int32) (x2 : Int32) (x3 : Int32) (x4 : Int32) (x5 : Int32) (x7 : Int32) (s0 : Int32) : Option ((Int32 × Int32 × q_Hp) ⊕ (Int32 × q_Hp)) := some (Sum.inl (s0, (x7 + (-1 : Int32)), h))
noncomputable def fX5_isReady_73 (σ : q_St) (h : q_Hp) (a0 : Nat) (x1 : Int32) (x2 : Int32) (x3 : Int32) (x4 : Int32) (x5 : Int32) (x6 : Int32) (x7 : Int32) (s0 : Int32) : Option ((Int32 × Int32 × q_Hp) ⊕ (Int32 × q_Hp)) := (if s0 = 0 then fX5_isReady_87 σ h a0 x1 x2 x3 x4 x5 x7 x6 else fX5_isReady_87 σ h a0 x1 x2 x3 x4 x5 x7 x7)
noncomputable def fX5_isReady_68 (σ : q_St) (h : q_Hp) (a0 : Nat) (x1 : Int32) (x2 : Int32) (x3 : Int32) (x4 : Int32) (x5 : Int32) (x6 : Int32) (x7 : Int32) : Option ((Int32 × Int32 × q_Hp) ⊕ (Int32 × q_Hp)) := fX5_isReady_73 σ h a0 x1 x2 x3 x4 x5 x6 x7 (1 : Int32)
noncomputable def fX5_isReady_72 (σ : q_St) (h : q_Hp) (a0 : Nat) (x1 : Int32) (x2 : Int32) (x3 : Int32) (x4 : Int32) (x5 : Int32) (x6 : Int32) (x7 : Int32) : Option ((Int32 × Int32 × q_Hp) ⊕ (Int32 × q_Hp)) := fX5_isReady_73 σ h a0 x1 x2 x3 x4 x5 x6 x7 (0 : Int32)
noncomputable def fX5_isReady_30 (σ : q_St) (a0 : Nat) (x1 : Int32) (x2 : Int32) (x3 : Int32) (x4 : Int32) (x5 : Int32) (x6 : Int32) (x7 : Int32) (h : q_Hp) : Option ((Int32 × Int32 × q_Hp) ⊕ (Int32 × q_Hp)) := (if x7 < 0 then some (Sum.inr (x6, h)) else ((fX5_hasBit σ h x4 x7).bind fun r4 => (if r4 = 0 then fX5_isReady_72 σ h a0 x1 x2 x3 x4 x5 x6 x7 else (if x6 < 0 then fX5_isReady_68 σ h a0 x1 x2 x3 x4 x5 x6 x7 else ((fX5_toldHour σ h a0 x2 x7).bind fun r5 => ((fX5_toldHour σ h a0 x2 x6).bind fun r6 => (if 0 < (lg_cmp r5 r6) then fX5_isReady_72 σ h a0 x1 x2 x3 x4 x5 x6 x7 else fX5_isReady_68 σ h a0 x1 x2 x3 x4 x5 x6 x7)))))))
noncomputable def fX5_isReady_147 (σ : q_St) (h : q_Hp) (a0 : Nat) (x1 : Int32) (x2 : Int32) (x3 : Int32) (x4 : Int32) (x6 : Int32) (s0 : Int32) : Option ((Int32 × Int32 × Int32 × q_Hp) ⊕ (Int32 × q_Hp)) := some (Sum.inl (x3, (x4 &&& (((1 : Int32) <<< (x6 &&& 31)) ^^^ (-1 : Int32))), s0, h))
noncomputable def fX5_isReady_146 (σ : q_St) (h : q_Hp) (a0 : Nat) (x1 : Int32) (x2 : Int32) (x3 : Int32) (x4 : Int32) (x6 : Int32) : Option ((Int32 × Int32 × Int32 × q_Hp) ⊕ (Int32 × q_Hp)) := fX5_isReady_147 σ h a0 x1 x2 x3 x4 x6 (0 : Int32)
noncomputable def fX5_isReady_112 (σ : q_St) (h : q_Hp) (a0 : Nat) (x1 : Int32) (x2 : Int32) (x3 : Int32) (x4 : Int32) (x5 : Int32) (x6 : Int32) (s0 : Int32) (s1 : Nat) : Option ((Int32 × Int32 × Int32 × q_Hp) ⊕ (Int32 × q_Hp)) := q_gu ((q_tag σ s1 = 6)) (((fX5_cleansOf σ (q_si h s1 41 s0) a0 x6).bind fun r8 => (if x5 = 0 then fX5_isReady_146 σ (q_si h s1 41 s0) a0 x1 x2 (x3 + r8) x4 x6 else ((fX5_toldHour σ (q_si h s1 41 s0) a0 x2 x6).bind fun r9 => (if 0 < (lg_cmp (Int32.toInt64 (x3 + r8)) r9) then fX5_isReady_146 σ (q_si h s1 41 s0) a0 x1 x2 (x3 + r8) x4 x6 else fX5_isReady_147 σ (q_si h s1 41 s0) a0 x1 x2 (x3 + r8) x4 x6 (1 : Int32))))))
noncomputable def fX5_isReady_14 (σ : q_St) (a0 : Nat) (x1 : Int32) (x2 : Int32) (x3 : Int32) (x4 : Int32) (x5 : Int32) (h : q_Hp) : Option ((Int32 × Int32 × Int32 × q_Hp) ⊕ (Int32 × q_Hp)) := (if x4 = 0 then some (Sum.inr (x5, h)) else (q_loop (fun s => fX5_isReady_30 σ a0 x1 x2 x3 x4 x5 s.1 s.2.1 s.2.2) q_N ((-1 : Int32), ((q_int h a0 0) - (1 : Int32)), h)).bind fun o3 => (if 0 ≤ (q_int o3.2 a0 41) then fX5_isReady_112 σ o3.2 a0 x1 x2 x3 x4 x5 o3.1 (q_int o3.2 a0 41) a0 else fX5_isReady_112 σ o3.2 a0 x1 x2 x3 x4 x5 o3.1 o3.1 a0))
noncomputable def fX5_isReady (σ : q_St) (h : q_Hp) (a0 : Nat) (x1 : Int32) (x2 : Int32) : Option (Int32 × q_Hp) := (q_loop (fun s => fX5_isReady_14 σ a0 x1 x2 s.1 s.2.1 s.2.2.1 s.2.2.2) q_N ((0 : Int32), x1, (1 : Int32), (q_si h a0 41 (-4 : Int32)))).bind fun o1 => q_gu ((o1.1 = 0 ∨ o1.1 = 1)) (some (o1.1, o1.2))
def cdX5_isReady : q_Cd := [(0, .iconst 0), (1, .istore_n 3), (2, .iload_n 1), (3, .istore 4), (5, .iconst 1), (6, .istore 5), (8, .aload_n 0), (9, .bipush (-4)), (11, .putfield 312), (14, .iload 4), (16, .ifCond .eq 147), (19, .iconst (-1)), (20, .istore 6), (22, .aload_n 0), (23, .getfield 93), (26, .iconst 1), (27, .isub), (28, .istore 7), (30, .iload 7), (32, .ifCond .lt 63), (35, .iload 4), (37, .iload 7), (39, .invokestatic 243), (42, .ifCond .eq 30), (45, .iload 6), (47, .ifCond .lt 21), (50, .aload_n 0), (51, .iload_n 2), (52, .iload 7), (54, .invokevirtual 315), (57, .aload_n 0), (58, .iload_n 2), (59, .iload 6), (61, .invokevirtual 315), (64, .lcmp), (65, .ifCond .gt 7), (68, .iconst 1), (69, .goto 4), (72, .iconst 0), (73, .istore 8), (75, .iload 8), (77, .ifCond .eq 8), (80, .iload 7), (82, .goto 5), (85, .iload 6), (87, .istore 6), (89, .iinc 7 (-1)), (92, .goto (-62)), (95, .aload_n 0), (96, .aload_n 0), (97, .getfield 312), (100, .ifCond .ge 8), (103, .iload 6), (105, .goto 7), (108, .aload_n 0), (109, .getfield 312), (112, .putfield 312), (115, .iload_n 3), (116, .aload_n 0), (117, .iload 6), (119, .invokevirtual 130), (122, .iadd), (123, .istore_n 3), (124, .iload 5), (126, .ifCond .eq 20), (129, .iload_n 3), (130, .i2l), (131, .aload_n 0), (132, .iload_n 2), (133, .iload 6), (135, .invokevirtual 315), (138, .lcmp), (139, .ifCond .gt 7), (142, .iconst 1), (143, .goto 4), (146, .iconst 0), (147, .istore 5), (149, .iload 4), (151, .iconst 1), (152, .iload 6), (154, .ishl), (155, .iconst (-1)), (156, .ixor), (157, .iand), (158, .istore 4), (160, .goto (-146)), (163, .iload 5), (165, .ireturn)]
set_option maxRecDepth 100000 in
theorem cokX5_isReady : q_cok cX5_isReady cdX5_isReady := by unfold q_cok; decide +kernel
set_option maxRecDepth 100000 in
set_option maxHeartbeats 4000000 in
theorem ctX5_isReady {l : Launch} {D : va_G} {cy : Nat → Nat} {b0 : Nat} {σ : q_St} {h : q_Hp} (a0 : Nat) (x1 : Int32) (x2 : Int32) {r : Int32} {h' : q_Hp} (ta0 : q_tag σ a0 = 6) (hf : fX5_isReady σ h a0 x1 x2 = some (r, h')) : q_M l yX5_isReady cX5_isReady 9 (some .boolean) 2 43 0 0 D cy b0 σ h [.ref a0, .int x1, .int x2] (some (.int r)) σ h' := by
  unfold fX5_isReady at hf
  refine q_enter (by decide) (Nat.le_of_ble_eq_true rfl) ?_
  intro p e s m args below meth c C0 hr hlk hnm
  replace C0 : VC p { frames := 2, cells := 0, slots := 0, locals := 43 } s m args meth c D cy b0 9 0 0 RX5 cX5_isReady := C0
  have n14 : ∀ (o : (Int32 × q_Hp)) (s1 : (Int32 × Int32 × Int32 × q_Hp)), q_loop (fun s => fX5_isReady_14 σ a0 x1 x2 s.1 s.2.1 s.2.2.1 s.2.2.2) q_N s1 = some o → V p l e { frames := 2, cells := 0, slots := 0, locals := 43 } s m args below meth c (MQ below (q_Qc D cy b0 (some (.int r)) σ h') args s 0 0 (fun q => b0 ≤ q)) D cy b0 9 0 0 0 0 σ o.2 163 [(5, .int o.1)] [] → V p l e { frames := 2, cells := 0, slots := 0, locals := 43 } s m args below meth c (MQ below (q_Qc D cy b0 (some (.int r)) σ h') args s 0 0 (fun q => b0 ≤ q)) D cy b0 9 0 0 0 0 σ s1.2.2.2 14 [(0, .ref a0), (2, .int x2), (3, .int s1.1), (4, .int s1.2.1), (5, .int s1.2.2.1)] [] := by
    intro o s1 ho kx1
    refine q_loop_V (P := fun s0 => V p l e { frames := 2, cells := 0, slots := 0, locals := 43 } s m args below meth c (MQ below (q_Qc D cy b0 (some (.int r)) σ h') args s 0 0 (fun q => b0 ≤ q)) D cy b0 9 0 0 0 0 σ s0.2.2.2 14 [(0, .ref a0), (2, .int x2), (3, .int s0.1), (4, .int s0.2.1), (5, .int s0.2.2.1)] []) (o := o) ?_ q_N s1 ho
    intro s2 z1 hf kb1 kr1
    obtain ⟨x3, x4, x5, h⟩ := s2
    replace hf : fX5_isReady_14 σ a0 x1 x2 x3 x4 x5 h = some z1 := hf
    unfold fX5_isReady_14 at hf
    show V p l e { frames := 2, cells := 0, slots := 0, locals := 43 } s m args below meth c (MQ below (q_Qc D cy b0 (some (.int r)) σ h') args s 0 0 (fun q => b0 ≤ q)) D cy b0 9 0 0 0 0 σ h 14 [(0, .ref a0), (2, .int x2), (3, .int x3), (4, .int x4), (5, .int x5)] []
    have n30 : ∀ (x3 : Int32) (x4 : Int32) (x5 : Int32) (o : (Int32 × q_Hp)) (s1 : (Int32 × Int32 × q_Hp)), q_loop (fun s => fX5_isReady_30 σ a0 x1 x2 x3 x4 x5 s.1 s.2.1 s.2.2) q_N s1 = some o → V p l e { frames := 2, cells := 0, slots := 0, locals := 43 } s m args below meth c (MQ below (q_Qc D cy b0 (some (.int r)) σ h') args s 0 0 (fun q => b0 ≤ q)) D cy b0 9 0 0 0 0 σ o.2 95 [(0, .ref a0), (2, .int x2), (3, .int x3), (4, .int x4), (5, .int x5), (6, .int o.1)] [] → V p l e { frames := 2, cells := 0, slots := 0, locals := 43 } s m args below meth c (MQ below (q_Qc D cy b0 (some (.int r)) σ h') args s 0 0 (fun q => b0 ≤ q)) D cy b0 9 0 0 0 0 σ s1.2.2 30 [(0, .ref a0), (2, .int x2), (3, .int x3), (4, .int x4), (5, .int x5), (6, .int s1.1), (7, .int s1.2.1)] [] := by
      intro x3 x4 x5 o s1 ho kx2
      refine q_loop_V (P := fun s0 => V p l e { frames := 2, cells := 0, slots := 0, locals := 43 } s m args below meth c (MQ below (q_Qc D cy b0 (some (.int r)) σ h') args s 0 0 (fun q => b0 ≤ q)) D cy b0 9 0 0 0 0 σ s0.2.2 30 [(0, .ref a0), (2, .int x2), (3, .int x3), (4, .int x4), (5, .int x5), (6, .int s0.1), (7, .int s0.2.1)] []) (o := o) ?_ q_N s1 ho
      intro s2 z2 hf kb2 kr2
      obtain ⟨x6, x7, h⟩ := s2
      replace hf : fX5_isReady_30 σ a0 x1 x2 x3 x4 x5 x6 x7 h = some z2 := hf
      unfold fX5_isReady_30 at hf
      show V p l e { frames := 2, cells := 0, slots := 0, locals := 43 } s m args below meth c (MQ below (q_Qc D cy b0 (some (.int r)) σ h') args s 0 0 (fun q => b0 ≤ q)) D cy b0 9 0 0 0 0 σ h 30 [(0, .ref a0), (2, .int x2), (3, .int x3), (4, .int x4), (5, .int x5), (6, .int x6), (7, .int x7)] []
      have n87 : ∀ (h : q_Hp) (x7 : Int32) (s0 : Int32), fX5_isReady_87 σ h a0 x1 x2 x3 x4 x5 x7 s0 = some z2 → V p l e { frames := 2, cells := 0, slots := 0, locals := 43 } s m args below meth c (MQ below (q_Qc D cy b0 (some (.int r)) σ h') args s 0 0 (fun q => b0 ≤ q)) D cy b0 9 0 0 0 0 σ h 87 [(0, .ref a0), (2, .int x2), (3, .int x3), (4, .int x4), (5, .int x5), (7, .int x7)] [.int s0] := by
        intro h x7 s0 hf
        unfold fX5_isReady_87 at hf
        refine v_run C0 tbX5 cokX5_isReady (pc' := 30) (lv' := [(7, .int (x7 + (-1 : Int32))), (6, .int s0), (0, .ref a0), (2, .int x2), (3, .int x3), (4, .int x4), (5, .int x5)]) (st' := []) (h' := h) 3 rfl trivial ?_
        obtain rfl := Option.some.inj hf
        refine v_pick [2, 3, 4, 5, 6, 1, 0] rfl ?_
        exact kb2 _ rfl
      have n73 : ∀ (h : q_Hp) (x6 : Int32) (x7 : Int32) (s0 : Int32), fX5_isReady_73 σ h a0 x1 x2 x3 x4 x5 x6 x7 s0 = some z2 → V p l e { frames := 2, cells := 0, slots := 0, locals := 43 } s m args below meth c (MQ below (q_Qc D cy b0 (some (.int r)) σ h') args s 0 0 (fun q => b0 ≤ q)) D cy b0 9 0 0 0 0 σ h 73 [(0, .ref a0), (2, .int x2), (3, .int x3), (4, .int x4), (5, .int x5), (6, .int x6), (7, .int x7)] [.int s0] := by
        intro h x6 x7 s0 hf
        unfold fX5_isReady_73 at hf
        refine v_run C0 tbX5 cokX5_isReady (pc' := 77) (lv' := [(8, .int s0), (0, .ref a0), (2, .int x2), (3, .int x3), (4, .int x4), (5, .int x5), (6, .int x6), (7, .int x7)]) (st' := [.int s0]) (h' := h) 2 rfl trivial ?_
        refine v_if_eq C0 cokX5_isReady rfl 85 (by decide) hf (fun _ hf => ?_) (fun _ hf => ?_)
        · refine v_run C0 tbX5 cokX5_isReady (pc' := 87) (lv' := [(8, .int s0), (0, .ref a0), (2, .int x2), (3, .int x3), (4, .int x4), (5, .int x5), (6, .int x6), (7, .int x7)]) (st' := [.int x6]) (h' := h) 1 rfl trivial ?_
          refine v_pick [1, 2, 3, 4, 5, 7] rfl ?_
          exact n87 h x7 x6 hf
        · refine v_run C0 tbX5 cokX5_isReady (pc' := 87) (lv' := [(8, .int s0), (0, .ref a0), (2, .int x2), (3, .int x3), (4, .int x4), (5, .int x5), (6, .int x6), (7, .int x7)]) (st' := [.int x7]) (h' := h) 2 rfl trivial ?_
          refine v_pick [1, 2, 3, 4, 5, 7] rfl ?_
          exact n87 h x7 x7 hf
      have n68 : ∀ (h : q_Hp) (x6 : Int32) (x7 : Int32), fX5_isReady_68 σ h a0 x1 x2 x3 x4 x5 x6 x7 = some z2 → V p l e { frames := 2, cells := 0, slots := 0, locals := 43 } s m args below meth c (MQ below (q_Qc D cy b0 (some (.int r)) σ h') args s 0 0 (fun q => b0 ≤ q)) D cy b0 9 0 0 0 0 σ h 68 [(0, .ref a0), (2, .int x2), (3, .int x3), (4, .int x4), (5, .int x5), (6, .int x6), (7, .int x7)] [] := by
        intro h x6 x7 hf
        unfold fX5_isReady_68 at hf
        refine v_run C0 tbX5 cokX5_isReady (pc' := 73) (lv' := [(0, .ref a0), (2, .int x2), (3, .int x3), (4, .int x4), (5, .int x5), (6, .int x6), (7, .int x7)]) (st' := [.int (1 : Int32)]) (h' := h) 2 rfl trivial ?_
        refine v_pick [0, 1, 2, 3, 4, 5, 6] rfl ?_
        exact n73 h x6 x7 (1 : Int32) hf
      have n72 : ∀ (h : q_Hp) (x6 : Int32) (x7 : Int32), fX5_isReady_72 σ h a0 x1 x2 x3 x4 x5 x6 x7 = some z2 → V p l e { frames := 2, cells := 0, slots := 0, locals := 43 } s m args below meth c (MQ below (q_Qc D cy b0 (some (.int r)) σ h') args s 0 0 (fun q => b0 ≤ q)) D cy b0 9 0 0 0 0 σ h 72 [(0, .ref a0), (2, .int x2), (3, .int x3), (4, .int x4), (5, .int x5), (6, .int x6), (7, .int x7)] [] := by
        intro h x6 x7 hf
        unfold fX5_isReady_72 at hf
        refine v_run C0 tbX5 cokX5_isReady (pc' := 73) (lv' := [(0, .ref a0), (2, .int x2), (3, .int x3), (4, .int x4), (5, .int x5), (6, .int x6), (7, .int x7)]) (st' := [.int (0 : Int32)]) (h' := h) 1 rfl trivial ?_
        refine v_pick [0, 1, 2, 3, 4, 5, 6] rfl ?_
        exact n73 h x6 x7 (0 : Int32) hf
      refine v_run C0 tbX5 cokX5_isReady (pc' := 32) (lv' := [(0, .ref a0), (2, .int x2), (3, .int x3), (4, .int x4), (5, .int x5), (6, .int x6), (7, .int x7)]) (st' := [.int x7]) (h' := h) 1 rfl trivial ?_
      refine v_if_lt C0 cokX5_isReady rfl 95 (by decide) hf (fun _ hf => ?_) (fun _ hf => ?_)
      · obtain rfl := Option.some.inj hf
        refine v_pick [0, 1, 2, 3, 4, 5] rfl ?_
        have hx := kr2 _ rfl
        subst hx
        exact kx2
      · refine v_run C0 tbX5 cokX5_isReady (pc' := 39) (lv' := [(0, .ref a0), (2, .int x2), (3, .int x3), (4, .int x4), (5, .int x5), (6, .int x6), (7, .int x7)]) (st' := [.int x7, .int x4]) (h' := h) 2 rfl trivial ?_
        obtain ⟨r4, e4, hf⟩ := q_bd hf
        refine v_callS C0 cokX5_isReady rfl (rest := []) (ctX5_hasBit x4 x7 e4) calX5_hasBit lkX5_243 inX5_hasBit dnX5_hasBit rfl rfl ⟨by decide, by decide⟩ (Nat.le_of_ble_eq_true rfl) (Nat.le_refl _) (Nat.le_refl _) ?_
        refine v_if_eq C0 cokX5_isReady rfl 72 (by decide) hf (fun _ hf => ?_) (fun _ hf => ?_)
        · refine v_pick [0, 1, 2, 3, 4, 5, 6] rfl ?_
          exact n72 h x6 x7 hf
        · refine v_run C0 tbX5 cokX5_isReady (pc' := 47) (lv' := [(0, .ref a0), (2, .int x2), (3, .int x3), (4, .int x4), (5, .int x5), (6, .int x6), (7, .int x7)]) (st' := [.int x6]) (h' := h) 1 rfl trivial ?_
          refine v_if_lt C0 cokX5_isReady rfl 68 (by decide) hf (fun _ hf => ?_) (fun _ hf => ?_)
          · refine v_pick [0, 1, 2, 3, 4, 5, 6] rfl ?_
            exact n68 h x6 x7 hf
          · refine v_run C0 tbX5 cokX5_isReady (pc' := 54) (lv' := [(0, .ref a0), (2, .int x2), (3, .int x3), (4, .int x4), (5, .int x5), (6, .int x6), (7, .int x7)]) (st' := [.int x7, .int x2, .ref a0]) (h' := h) 3 rfl trivial ?_
            obtain ⟨r5, e5, hf⟩ := q_bd hf
            refine v_callV C0 cokX5_isReady rfl (rest := []) (ctX5_toldHour a0 x2 x7 ta0 e5) calX5_toldHour lkX5_315 inX5_toldHour dnX5_toldHour (ci := 5) ⟨rfl, by decide⟩ ta0 rfl rfl ⟨by decide, by decide⟩ (Nat.le_of_ble_eq_true rfl) (Nat.le_refl _) (Nat.le_refl _) ?_
            refine v_run C0 tbX5 cokX5_isReady (pc' := 61) (lv' := [(0, .ref a0), (2, .int x2), (3, .int x3), (4, .int x4), (5, .int x5), (6, .int x6), (7, .int x7)]) (st' := [.int x6, .int x2, .ref a0, .long r5]) (h' := h) 3 rfl trivial ?_
            obtain ⟨r6, e6, hf⟩ := q_bd hf
            refine v_callV C0 cokX5_isReady rfl (rest := [.long r5]) (ctX5_toldHour a0 x2 x6 ta0 e6) calX5_toldHour lkX5_315 inX5_toldHour dnX5_toldHour (ci := 5) ⟨rfl, by decide⟩ ta0 rfl rfl ⟨by decide, by decide⟩ (Nat.le_of_ble_eq_true rfl) (Nat.le_refl _) (Nat.le_refl _) ?_
            refine v_run C0 tbX5 cokX5_isReady (pc' := 65) (lv' := [(0, .ref a0), (2, .int x2), (3, .int x3), (4, .int x4), (5, .int x5), (6, .int x6), (7, .int x7)]) (st' := [.int (lg_cmp r5 r6)]) (h' := h) 1 rfl trivial ?_
            refine v_if_gt C0 cokX5_isReady rfl 72 (by decide) hf (fun _ hf => ?_) (fun _ hf => ?_)
            · refine v_pick [0, 1, 2, 3, 4, 5, 6] rfl ?_
              exact n72 h x6 x7 hf
            · refine v_pick [0, 1, 2, 3, 4, 5, 6] rfl ?_
              exact n68 h x6 x7 hf
    have n147 : ∀ (h : q_Hp) (x3 : Int32) (x4 : Int32) (x6 : Int32) (s0 : Int32), fX5_isReady_147 σ h a0 x1 x2 x3 x4 x6 s0 = some z1 → V p l e { frames := 2, cells := 0, slots := 0, locals := 43 } s m args below meth c (MQ below (q_Qc D cy b0 (some (.int r)) σ h') args s 0 0 (fun q => b0 ≤ q)) D cy b0 9 0 0 0 0 σ h 147 [(0, .ref a0), (2, .int x2), (3, .int x3), (4, .int x4), (6, .int x6)] [.int s0] := by
      intro h x3 x4 x6 s0 hf
      unfold fX5_isReady_147 at hf
      refine v_run C0 tbX5 cokX5_isReady (pc' := 14) (lv' := [(4, .int (x4 &&& (((1 : Int32) <<< (x6 &&& 31)) ^^^ (-1 : Int32)))), (5, .int s0), (0, .ref a0), (2, .int x2), (3, .int x3), (6, .int x6)]) (st' := []) (h' := h) 10 rfl trivial ?_
      obtain rfl := Option.some.inj hf
      refine v_pick [2, 3, 4, 0, 1] rfl ?_
      exact kb1 _ rfl
    have n146 : ∀ (h : q_Hp) (x3 : Int32) (x4 : Int32) (x6 : Int32), fX5_isReady_146 σ h a0 x1 x2 x3 x4 x6 = some z1 → V p l e { frames := 2, cells := 0, slots := 0, locals := 43 } s m args below meth c (MQ below (q_Qc D cy b0 (some (.int r)) σ h') args s 0 0 (fun q => b0 ≤ q)) D cy b0 9 0 0 0 0 σ h 146 [(0, .ref a0), (2, .int x2), (3, .int x3), (4, .int x4), (6, .int x6)] [] := by
      intro h x3 x4 x6 hf
      unfold fX5_isReady_146 at hf
      refine v_run C0 tbX5 cokX5_isReady (pc' := 147) (lv' := [(0, .ref a0), (2, .int x2), (3, .int x3), (4, .int x4), (6, .int x6)]) (st' := [.int (0 : Int32)]) (h' := h) 1 rfl trivial ?_
      refine v_pick [0, 1, 2, 3, 4] rfl ?_
      exact n147 h x3 x4 x6 (0 : Int32) hf
    have n112 : ∀ (h : q_Hp) (x3 : Int32) (x4 : Int32) (x5 : Int32) (x6 : Int32) (s0 : Int32) (s1 : Nat), fX5_isReady_112 σ h a0 x1 x2 x3 x4 x5 x6 s0 s1 = some z1 → V p l e { frames := 2, cells := 0, slots := 0, locals := 43 } s m args below meth c (MQ below (q_Qc D cy b0 (some (.int r)) σ h') args s 0 0 (fun q => b0 ≤ q)) D cy b0 9 0 0 0 0 σ h 112 [(0, .ref a0), (2, .int x2), (3, .int x3), (4, .int x4), (5, .int x5), (6, .int x6)] [.int s0, .ref s1] := by
      intro h x3 x4 x5 x6 s0 s1 hf
      unfold fX5_isReady_112 at hf
      obtain ⟨g7, hf⟩ := q_gu_o hf
      refine v_run C0 tbX5 cokX5_isReady (pc' := 119) (lv' := [(0, .ref a0), (2, .int x2), (3, .int x3), (4, .int x4), (5, .int x5), (6, .int x6)]) (st' := [.int x6, .ref a0, .int x3]) (h' := (q_si h s1 41 s0)) 4 rfl ⟨g7, trivial⟩ ?_
      obtain ⟨r8, e8, hf⟩ := q_bd hf
      refine v_callV C0 cokX5_isReady rfl (rest := [.int x3]) (ctX5_cleansOf a0 x6 ta0 e8) calX5_cleansOf lkX5_130 inX5_cleansOf dnX5_cleansOf (ci := 5) ⟨rfl, by decide⟩ ta0 rfl rfl ⟨by decide, by decide⟩ (Nat.le_of_ble_eq_true rfl) (Nat.le_refl _) (Nat.le_refl _) ?_
      refine v_run C0 tbX5 cokX5_isReady (pc' := 126) (lv' := [(3, .int (x3 + r8)), (0, .ref a0), (2, .int x2), (4, .int x4), (5, .int x5), (6, .int x6)]) (st' := [.int x5]) (h' := (q_si h s1 41 s0)) 3 rfl trivial ?_
      refine v_if_eq C0 cokX5_isReady rfl 146 (by decide) hf (fun _ hf => ?_) (fun _ hf => ?_)
      · refine v_pick [1, 2, 0, 3, 5] rfl ?_
        exact n146 (q_si h s1 41 s0) (x3 + r8) x4 x6 hf
      · refine v_run C0 tbX5 cokX5_isReady (pc' := 135) (lv' := [(3, .int (x3 + r8)), (0, .ref a0), (2, .int x2), (4, .int x4), (5, .int x5), (6, .int x6)]) (st' := [.int x6, .int x2, .ref a0, .long (Int32.toInt64 (x3 + r8))]) (h' := (q_si h s1 41 s0)) 5 rfl trivial ?_
        obtain ⟨r9, e9, hf⟩ := q_bd hf
        refine v_callV C0 cokX5_isReady rfl (rest := [.long (Int32.toInt64 (x3 + r8))]) (ctX5_toldHour a0 x2 x6 ta0 e9) calX5_toldHour lkX5_315 inX5_toldHour dnX5_toldHour (ci := 5) ⟨rfl, by decide⟩ ta0 rfl rfl ⟨by decide, by decide⟩ (Nat.le_of_ble_eq_true rfl) (Nat.le_refl _) (Nat.le_refl _) ?_
        refine v_run C0 tbX5 cokX5_isReady (pc' := 139) (lv' := [(3, .int (x3 + r8)), (0, .ref a0), (2, .int x2), (4, .int x4), (5, .int x5), (6, .int x6)]) (st' := [.int (lg_cmp (Int32.toInt64 (x3 + r8)) r9)]) (h' := (q_si h s1 41 s0)) 1 rfl trivial ?_
        refine v_if_gt C0 cokX5_isReady rfl 146 (by decide) hf (fun _ hf => ?_) (fun _ hf => ?_)
        · refine v_pick [1, 2, 0, 3, 5] rfl ?_
          exact n146 (q_si h s1 41 s0) (x3 + r8) x4 x6 hf
        · refine v_run C0 tbX5 cokX5_isReady (pc' := 147) (lv' := [(3, .int (x3 + r8)), (0, .ref a0), (2, .int x2), (4, .int x4), (5, .int x5), (6, .int x6)]) (st' := [.int (1 : Int32)]) (h' := (q_si h s1 41 s0)) 2 rfl trivial ?_
          refine v_pick [1, 2, 0, 3, 5] rfl ?_
          exact n147 (q_si h s1 41 s0) (x3 + r8) x4 x6 (1 : Int32) hf
    refine v_run C0 tbX5 cokX5_isReady (pc' := 16) (lv' := [(0, .ref a0), (2, .int x2), (3, .int x3), (4, .int x4), (5, .int x5)]) (st' := [.int x4]) (h' := h) 1 rfl trivial ?_
    refine v_if_eq C0 cokX5_isReady rfl 163 (by decide) hf (fun _ hf => ?_) (fun _ hf => ?_)
    · obtain rfl := Option.some.inj hf
      refine v_pick [4] rfl ?_
      have hx := kr1 _ rfl
      subst hx
      exact kx1
    · refine v_run C0 tbX5 cokX5_isReady (pc' := 30) (lv' := [(7, .int ((q_int h a0 0) - (1 : Int32))), (6, .int (-1 : Int32)), (0, .ref a0), (2, .int x2), (3, .int x3), (4, .int x4), (5, .int x5)]) (st' := []) (h' := h) 7 rfl ⟨ta0, trivial⟩ ?_
      obtain ⟨o3, eo3, hf⟩ := q_bd hf
      refine v_pick [2, 3, 4, 5, 6, 1, 0] rfl ?_
      refine n30 x3 x4 x5 o3 ((-1 : Int32), ((q_int h a0 0) - (1 : Int32)), h) eo3 ?_
      refine v_run C0 tbX5 cokX5_isReady (pc' := 100) (lv' := [(0, .ref a0), (2, .int x2), (3, .int x3), (4, .int x4), (5, .int x5), (6, .int o3.1)]) (st' := [.int (q_int o3.2 a0 41), .ref a0]) (h' := o3.2) 3 rfl ⟨ta0, trivial⟩ ?_
      refine v_if_ge C0 cokX5_isReady rfl 108 (by decide) hf (fun _ hf => ?_) (fun _ hf => ?_)
      · refine v_run C0 tbX5 cokX5_isReady (pc' := 112) (lv' := [(0, .ref a0), (2, .int x2), (3, .int x3), (4, .int x4), (5, .int x5), (6, .int o3.1)]) (st' := [.int (q_int o3.2 a0 41), .ref a0]) (h' := o3.2) 2 rfl ⟨ta0, trivial⟩ ?_
        refine v_pick [0, 1, 2, 3, 4, 5] rfl ?_
        exact n112 o3.2 x3 x4 x5 o3.1 (q_int o3.2 a0 41) a0 hf
      · refine v_run C0 tbX5 cokX5_isReady (pc' := 112) (lv' := [(0, .ref a0), (2, .int x2), (3, .int x3), (4, .int x4), (5, .int x5), (6, .int o3.1)]) (st' := [.int o3.1, .ref a0]) (h' := o3.2) 2 rfl trivial ?_
        refine v_pick [0, 1, 2, 3, 4, 5] rfl ?_
        exact n112 o3.2 x3 x4 x5 o3.1 o3.1 a0 hf
  refine v_run C0 tbX5 cokX5_isReady (pc' := 14) (lv' := [(5, .int (1 : Int32)), (4, .int x1), (3, .int (0 : Int32)), (0, .ref a0), (1, .int x1), (2, .int x2)]) (st' := []) (h' := (q_si h a0 41 (-4 : Int32))) 9 rfl ⟨ta0, trivial⟩ ?_
  obtain ⟨o1, eo1, hf⟩ := q_bd hf
  refine v_pick [3, 5, 2, 1, 0] rfl ?_
  refine n14 o1 ((0 : Int32), x1, (1 : Int32), (q_si h a0 41 (-4 : Int32))) eo1 ?_
  refine v_run C0 tbX5 cokX5_isReady (pc' := 165) (lv' := [(5, .int o1.1)]) (st' := [.int o1.1]) (h' := o1.2) 1 rfl trivial ?_
  obtain ⟨g2, hf⟩ := q_gu_o hf
  obtain ⟨rfl, rfl⟩ := Prod.mk.inj (Option.some.inj hf)
  exact v_zret C0 cokX5_isReady hr hlk rfl g2
-- BackByNoonOnMondayModel.ready(II)I
noncomputable def fX5_ready_114 (σ : q_St) (h : q_Hp) (a0 : Nat) (x1 : Int32) (x2 : Int32) (x4 : Int32) (x6 : Int32) (s0 : Int32) (s1 : Int32) : Option ((Int32 × Int32 × Int32 × q_Hp) ⊕ (Int32 × Int32 × q_Hp)) := some (Sum.inl (x4, (s1 ||| s0), (x6 + (1 : Int32)), h))
noncomputable def fX5_ready_113 (σ : q_St) (h : q_Hp) (a0 : Nat) (x1 : Int32) (x2 : Int32) (x4 : Int32) (x6 : Int32) (s0 : Int32) : Option ((Int32 × Int32 × Int32 × q_Hp) ⊕ (Int32 × Int32 × q_Hp)) := fX5_ready_114 σ h a0 x1 x2 x4 x6 (0 : Int32) s0
noncomputable def fX5_ready_74 (σ : q_St) (h : q_Hp) (a0 : Nat) (x1 : Int32) (x2 : Int32) (x5 : Int32) (x6 : Int32) (s0 : Int32) (s1 : Int32) : Option ((Int32 × Int32 × Int32 × q_Hp) ⊕ (Int32 × Int32 × q_Hp)) := q_gu ((vp_in x6 (q_len σ (q_ref σ a0 5)))) ((if (q_int h (q_ref σ a0 5) (Int32.toNatClampNeg x6)) = (2 : Int32) then ((fX5_toldHour σ h a0 x1 x6).bind fun r10 => ((fX5_skipped σ h a0 x1).bind fun r11 => (if (lg_cmp r10 r11) = 0 then fX5_ready_113 σ h a0 x1 x2 (s1 + s0) x6 x5 else fX5_ready_114 σ h a0 x1 x2 (s1 + s0) x6 ((1 : Int32) <<< (x6 &&& 31)) x5))) else fX5_ready_113 σ h a0 x1 x2 (s1 + s0) x6 x5))
noncomputable def fX5_ready_42 (σ : q_St) (a0 : Nat) (x1 : Int32) (x2 : Int32) (x4 : Int32) (x5 : Int32) (x6 : Int32) (h : q_Hp) : Option ((Int32 × Int32 × Int32 × q_Hp) ⊕ (Int32 × Int32 × q_Hp)) := (if (q_int h a0 0) ≤ x6 then some (Sum.inr (x4, x5, h)) else q_gu ((vp_in x6 (q_len σ (q_ref σ a0 5)))) ((if (q_int h (q_ref σ a0 5) (Int32.toNatClampNeg x6)) = (2 : Int32) then ((fX5_cleansOf σ h a0 x6).bind fun r8 => fX5_ready_74 σ h a0 x1 x2 x5 x6 r8 x4) else fX5_ready_74 σ h a0 x1 x2 x5 x6 (0 : Int32) x4)))
noncomputable def fX5_ready_182 (σ : q_St) (h : q_Hp) (a0 : Nat) (x1 : Int32) (x2 : Int32) (x4 : Int32) (x5 : Int32) (x6 : Int32) (x7 : Int32) : Option ((Int32 × Int32 × q_Hp) ⊕ (Int32 × q_Hp)) := some (Sum.inl (x6, (x7 + (1 : Int32)), h))
noncomputable def fX5_ready_180 (σ : q_St) (h : q_Hp) (a0 : Nat) (x1 : Int32) (x2 : Int32) (x4 : Int32) (x5 : Int32) (x7 : Int32) (s0 : Int32) : Option ((Int32 × Int32 × q_Hp) ⊕ (Int32 × q_Hp)) := fX5_ready_182 σ h a0 x1 x2 x4 x5 s0 x7
noncomputable def fX5_ready_129 (σ : q_St) (a0 : Nat) (x1 : Int32) (x2 : Int32) (x4 : Int32) (x5 : Int32) (x6 : Int32) (x7 : Int32) (h : q_Hp) : Option ((Int32 × Int32 × q_Hp) ⊕ (Int32 × q_Hp)) := (if ((1 : Int32) <<< ((q_int h a0 0) &&& 31)) ≤ x7 then some (Sum.inr (x6, h)) else (if (x7 &&& (x5 ^^^ (-1 : Int32))) = 0 then ((fX5_onesOf σ h x7).bind fun r12 => ((fX5_onesOf σ h x6).bind fun r13 => (if r12 ≤ r13 then fX5_ready_182 σ h a0 x1 x2 x4 x5 x6 x7 else (q_b2 (fX5_isReady σ h a0 x7 x1) fun r14 h14 => (if r14 = 0 then fX5_ready_180 σ h14 a0 x1 x2 x4 x5 x7 x6 else fX5_ready_180 σ h14 a0 x1 x2 x4 x5 x7 x7))))) else fX5_ready_182 σ h a0 x1 x2 x4 x5 x6 x7))
noncomputable def fX5_ready_26 (σ : q_St) (h : q_Hp) (a0 : Nat) (x1 : Int32) (x2 : Int32) (s0 : Int32) : Option (Int32 × q_Hp) := (if 0 ≤ s0 then (q_loop (fun s => fX5_ready_42 σ a0 x1 x2 s.1 s.2.1 s.2.2.1 s.2.2.2) q_N ((0 : Int32), (0 : Int32), (0 : Int32), h)).bind fun o3 => (q_loop (fun s => fX5_ready_129 σ a0 x1 x2 o3.1 o3.2.1 s.1 s.2.1 s.2.2) q_N ((0 : Int32), (1 : Int32), o3.2.2)).bind fun o4 => (q_b2 (fX5_isReady σ o4.2 a0 o4.1 x1) fun r5 h5 => (if x2 = 0 then ((fX5_onesOf σ h5 o4.1).bind fun r6 => some (r6, h5)) else (if x2 = (1 : Int32) then some ((q_int h5 a0 41), h5) else some (o3.1, h5)))) else some (s0, h))
noncomputable def fX5_ready (σ : q_St) (h : q_Hp) (a0 : Nat) (x1 : Int32) (x2 : Int32) : Option (Int32 × q_Hp) := q_gu ((q_tag σ (q_ref σ a0 5) = 7)) (((fX5_in σ (q_si h a0 21 (0 : Int32)) (Int32.toInt64 x2) (0 : Int64) (2 : Int64)).bind fun r1 => (if r1 = 0 then fX5_ready_26 σ (q_si h a0 21 (0 : Int32)) a0 x1 x2 (-1 : Int32) else ((fX5_wrongHours σ (q_si h a0 21 (0 : Int32)) a0 x1).bind fun r2 => fX5_ready_26 σ (q_si h a0 21 (0 : Int32)) a0 x1 x2 r2))))
def cdX5_ready : q_Cd := [(0, .aload_n 0), (1, .iconst 0), (2, .putfield 89), (5, .iload_n 2), (6, .i2l), (7, .lconst 0), (8, .ldc2_w 319), (11, .invokestatic 96), (14, .ifCond .eq 11), (17, .aload_n 0), (18, .iload_n 1), (19, .invokevirtual 321), (22, .goto 4), (25, .iconst (-1)), (26, .istore_n 3), (27, .iload_n 3), (28, .ifCond .ge 5), (31, .iload_n 3), (32, .ireturn), (33, .iconst 0), (34, .istore 4), (36, .iconst 0), (37, .istore 5), (39, .iconst 0), (40, .istore 6), (42, .iload 6), (44, .aload_n 0), (45, .getfield 93), (48, .if_icmp .ge 75), (51, .iload 4), (53, .aload_n 0), (54, .getfield 22), (57, .iload 6), (59, .iaload), (60, .iconst 2), (61, .if_icmp .ne 12), (64, .aload_n 0), (65, .iload 6), (67, .invokevirtual 130), (70, .goto 4), (73, .iconst 0), (74, .iadd), (75, .istore 4), (77, .iload 5), (79, .aload_n 0), (80, .getfield 22), (83, .iload 6), (85, .iaload), (86, .iconst 2), (87, .if_icmp .ne 26), (90, .aload_n 0), (91, .iload_n 1), (92, .iload 6), (94, .invokevirtual 315), (97, .aload_n 0), (98, .iload_n 1), (99, .invokevirtual 306), (102, .lcmp), (103, .ifCond .eq 10), (106, .iconst 1), (107, .iload 6), (109, .ishl), (110, .goto 4), (113, .iconst 0), (114, .ior), (115, .istore 5), (117, .iinc 6 1), (120, .goto (-78)), (123, .iconst 0), (124, .istore 6), (126, .iconst 1), (127, .istore 7), (129, .iload 7), (131, .iconst 1), (132, .aload_n 0), (133, .getfield 93), (136, .ishl), (137, .if_icmp .ge 51), (140, .iload 7), (142, .iload 5), (144, .iconst (-1)), (145, .ixor), (146, .iand), (147, .ifCond .ne 35), (150, .iload 7), (152, .invokestatic 291), (155, .iload 6), (157, .invokestatic 291), (160, .if_icmp .le 22), (163, .aload_n 0), (164, .iload 7), (166, .iload_n 1), (167, .invokevirtual 324), (170, .ifCond .eq 8), (173, .iload 7), (175, .goto 5), (178, .iload 6), (180, .istore 6), (182, .iinc 7 1), (185, .goto (-56)), (188, .aload_n 0), (189, .iload 6), (191, .iload_n 1), (192, .invokevirtual 324), (195, .pop), (196, .iload_n 2), (197, .ifCond .ne 11), (200, .iload 6), (202, .invokestatic 291), (205, .goto 17), (208, .iload_n 2), (209, .iconst 1), (210, .if_icmp .ne 10), (213, .aload_n 0), (214, .getfield 312), (217, .goto 5), (220, .iload 4), (222, .ireturn)]
set_option maxRecDepth 100000 in
theorem cokX5_ready : q_cok cX5_ready cdX5_ready := by unfold q_cok; decide +kernel
set_option maxRecDepth 100000 in
set_option maxHeartbeats 4000000 in
theorem ctX5_ready {l : Launch} {D : va_G} {cy : Nat → Nat} {b0 : Nat} {σ : q_St} {h : q_Hp} (a0 : Nat) (x1 : Int32) (x2 : Int32) {r : Int32} {h' : q_Hp} (ta0 : q_tag σ a0 = 6) (hf : fX5_ready σ h a0 x1 x2 = some (r, h')) : q_M l yX5_ready cX5_ready 8 (some .int) 3 71 0 0 D cy b0 σ h [.ref a0, .int x1, .int x2] (some (.int r)) σ h' := by
  unfold fX5_ready at hf
  obtain ⟨k0, hf⟩ := q_gu_o hf
  refine q_enter (by decide) (Nat.le_of_ble_eq_true rfl) ?_
  intro p e s m args below meth c C0 hr hlk hnm
  replace C0 : VC p { frames := 3, cells := 0, slots := 0, locals := 71 } s m args meth c D cy b0 8 0 0 RX5 cX5_ready := C0
  have n42 : ∀ (o : (Int32 × Int32 × q_Hp)) (s1 : (Int32 × Int32 × Int32 × q_Hp)), q_loop (fun s => fX5_ready_42 σ a0 x1 x2 s.1 s.2.1 s.2.2.1 s.2.2.2) q_N s1 = some o → V p l e { frames := 3, cells := 0, slots := 0, locals := 71 } s m args below meth c (MQ below (q_Qc D cy b0 (some (.int r)) σ h') args s 0 0 (fun q => b0 ≤ q)) D cy b0 8 0 0 0 0 σ o.2.2 123 [(0, .ref a0), (1, .int x1), (2, .int x2), (4, .int o.1), (5, .int o.2.1)] [] → V p l e { frames := 3, cells := 0, slots := 0, locals := 71 } s m args below meth c (MQ below (q_Qc D cy b0 (some (.int r)) σ h') args s 0 0 (fun q => b0 ≤ q)) D cy b0 8 0 0 0 0 σ s1.2.2.2 42 [(0, .ref a0), (1, .int x1), (2, .int x2), (4, .int s1.1), (5, .int s1.2.1), (6, .int s1.2.2.1)] [] := by
    intro o s1 ho kx1
    refine q_loop_V (P := fun s0 => V p l e { frames := 3, cells := 0, slots := 0, locals := 71 } s m args below meth c (MQ below (q_Qc D cy b0 (some (.int r)) σ h') args s 0 0 (fun q => b0 ≤ q)) D cy b0 8 0 0 0 0 σ s0.2.2.2 42 [(0, .ref a0), (1, .int x1), (2, .int x2), (4, .int s0.1), (5, .int s0.2.1), (6, .int s0.2.2.1)] []) (o := o) ?_ q_N s1 ho
    intro s2 z1 hf kb1 kr1
    obtain ⟨x4, x5, x6, h⟩ := s2
    replace hf : fX5_ready_42 σ a0 x1 x2 x4 x5 x6 h = some z1 := hf
    unfold fX5_ready_42 at hf
    show V p l e { frames := 3, cells := 0, slots := 0, locals := 71 } s m args below meth c (MQ below (q_Qc D cy b0 (some (.int r)) σ h') args s 0 0 (fun q => b0 ≤ q)) D cy b0 8 0 0 0 0 σ h 42 [(0, .ref a0), (1, .int x1), (2, .int x2), (4, .int x4), (5, .int x5), (6, .int x6)] []
    have n114 : ∀ (h : q_Hp) (x4 : Int32) (x6 : Int32) (s0 : Int32) (s1 : Int32), fX5_ready_114 σ h a0 x1 x2 x4 x6 s0 s1 = some z1 → V p l e { frames := 3, cells := 0, slots := 0, locals := 71 } s m args below meth c (MQ below (q_Qc D cy b0 (some (.int r)) σ h') args s 0 0 (fun q => b0 ≤ q)) D cy b0 8 0 0 0 0 σ h 114 [(0, .ref a0), (1, .int x1), (2, .int x2), (4, .int x4), (6, .int x6)] [.int s0, .int s1] := by
      intro h x4 x6 s0 s1 hf
      unfold fX5_ready_114 at hf
      refine v_run C0 tbX5 cokX5_ready (pc' := 42) (lv' := [(6, .int (x6 + (1 : Int32))), (5, .int (s1 ||| s0)), (0, .ref a0), (1, .int x1), (2, .int x2), (4, .int x4)]) (st' := []) (h' := h) 4 rfl trivial ?_
      obtain rfl := Option.some.inj hf
      refine v_pick [2, 3, 4, 5, 1, 0] rfl ?_
      exact kb1 _ rfl
    have n113 : ∀ (h : q_Hp) (x4 : Int32) (x6 : Int32) (s0 : Int32), fX5_ready_113 σ h a0 x1 x2 x4 x6 s0 = some z1 → V p l e { frames := 3, cells := 0, slots := 0, locals := 71 } s m args below meth c (MQ below (q_Qc D cy b0 (some (.int r)) σ h') args s 0 0 (fun q => b0 ≤ q)) D cy b0 8 0 0 0 0 σ h 113 [(0, .ref a0), (1, .int x1), (2, .int x2), (4, .int x4), (6, .int x6)] [.int s0] := by
      intro h x4 x6 s0 hf
      unfold fX5_ready_113 at hf
      refine v_run C0 tbX5 cokX5_ready (pc' := 114) (lv' := [(0, .ref a0), (1, .int x1), (2, .int x2), (4, .int x4), (6, .int x6)]) (st' := [.int (0 : Int32), .int s0]) (h' := h) 1 rfl trivial ?_
      refine v_pick [0, 1, 2, 3, 4] rfl ?_
      exact n114 h x4 x6 (0 : Int32) s0 hf
    have n74 : ∀ (h : q_Hp) (x5 : Int32) (x6 : Int32) (s0 : Int32) (s1 : Int32), fX5_ready_74 σ h a0 x1 x2 x5 x6 s0 s1 = some z1 → V p l e { frames := 3, cells := 0, slots := 0, locals := 71 } s m args below meth c (MQ below (q_Qc D cy b0 (some (.int r)) σ h') args s 0 0 (fun q => b0 ≤ q)) D cy b0 8 0 0 0 0 σ h 74 [(0, .ref a0), (1, .int x1), (2, .int x2), (5, .int x5), (6, .int x6)] [.int s0, .int s1] := by
      intro h x5 x6 s0 s1 hf
      unfold fX5_ready_74 at hf
      obtain ⟨g9, hf⟩ := q_gu_o hf
      refine v_run C0 tbX5 cokX5_ready (pc' := 87) (lv' := [(4, .int (s1 + s0)), (0, .ref a0), (1, .int x1), (2, .int x2), (5, .int x5), (6, .int x6)]) (st' := [.int (2 : Int32), .int (q_int h (q_ref σ a0 5) (Int32.toNatClampNeg x6)), .int x5]) (h' := h) 8 rfl ⟨⟨ta0, q_tn k0⟩, ⟨k0, g9⟩, trivial⟩ ?_
      refine v_icmp_ne C0 cokX5_ready rfl 113 (by decide) hf (fun _ hf => ?_) (fun _ hf => ?_)
      · refine v_run C0 tbX5 cokX5_ready (pc' := 94) (lv' := [(4, .int (s1 + s0)), (0, .ref a0), (1, .int x1), (2, .int x2), (5, .int x5), (6, .int x6)]) (st' := [.int x6, .int x1, .ref a0, .int x5]) (h' := h) 3 rfl trivial ?_
        obtain ⟨r10, e10, hf⟩ := q_bd hf
        refine v_callV C0 cokX5_ready rfl (rest := [.int x5]) (ctX5_toldHour a0 x1 x6 ta0 e10) calX5_toldHour lkX5_315 inX5_toldHour dnX5_toldHour (ci := 5) ⟨rfl, by decide⟩ ta0 rfl rfl ⟨by decide, by decide⟩ (Nat.le_of_ble_eq_true rfl) (Nat.le_refl _) (Nat.le_refl _) ?_
        refine v_run C0 tbX5 cokX5_ready (pc' := 99) (lv' := [(4, .int (s1 + s0)), (0, .ref a0), (1, .int x1), (2, .int x2), (5, .int x5), (6, .int x6)]) (st' := [.int x1, .ref a0, .long r10, .int x5]) (h' := h) 2 rfl trivial ?_
        obtain ⟨r11, e11, hf⟩ := q_bd hf
        refine v_callV C0 cokX5_ready rfl (rest := [.long r10, .int x5]) (ctX5_skipped a0 x1 ta0 e11) calX5_skipped lkX5_306 inX5_skipped dnX5_skipped (ci := 5) ⟨rfl, by decide⟩ ta0 rfl rfl ⟨by decide, by decide⟩ (Nat.le_of_ble_eq_true rfl) (Nat.le_refl _) (Nat.le_refl _) ?_
        refine v_run C0 tbX5 cokX5_ready (pc' := 103) (lv' := [(4, .int (s1 + s0)), (0, .ref a0), (1, .int x1), (2, .int x2), (5, .int x5), (6, .int x6)]) (st' := [.int (lg_cmp r10 r11), .int x5]) (h' := h) 1 rfl trivial ?_
        refine v_if_eq C0 cokX5_ready rfl 113 (by decide) hf (fun _ hf => ?_) (fun _ hf => ?_)
        · refine v_pick [1, 2, 3, 0, 5] rfl ?_
          exact n113 h (s1 + s0) x6 x5 hf
        · refine v_run C0 tbX5 cokX5_ready (pc' := 114) (lv' := [(4, .int (s1 + s0)), (0, .ref a0), (1, .int x1), (2, .int x2), (5, .int x5), (6, .int x6)]) (st' := [.int ((1 : Int32) <<< (x6 &&& 31)), .int x5]) (h' := h) 4 rfl trivial ?_
          refine v_pick [1, 2, 3, 0, 5] rfl ?_
          exact n114 h (s1 + s0) x6 ((1 : Int32) <<< (x6 &&& 31)) x5 hf
      · refine v_pick [1, 2, 3, 0, 5] rfl ?_
        exact n113 h (s1 + s0) x6 x5 hf
    refine v_run C0 tbX5 cokX5_ready (pc' := 48) (lv' := [(0, .ref a0), (1, .int x1), (2, .int x2), (4, .int x4), (5, .int x5), (6, .int x6)]) (st' := [.int (q_int h a0 0), .int x6]) (h' := h) 3 rfl ⟨ta0, trivial⟩ ?_
    refine v_icmp_ge C0 cokX5_ready rfl 123 (by decide) hf (fun _ hf => ?_) (fun _ hf => ?_)
    · obtain rfl := Option.some.inj hf
      refine v_pick [0, 1, 2, 3, 4] rfl ?_
      have hx := kr1 _ rfl
      subst hx
      exact kx1
    · obtain ⟨g7, hf⟩ := q_gu_o hf
      refine v_run C0 tbX5 cokX5_ready (pc' := 61) (lv' := [(0, .ref a0), (1, .int x1), (2, .int x2), (4, .int x4), (5, .int x5), (6, .int x6)]) (st' := [.int (2 : Int32), .int (q_int h (q_ref σ a0 5) (Int32.toNatClampNeg x6)), .int x4]) (h' := h) 6 rfl ⟨⟨ta0, q_tn k0⟩, ⟨k0, g7⟩, trivial⟩ ?_
      refine v_icmp_ne C0 cokX5_ready rfl 73 (by decide) hf (fun _ hf => ?_) (fun _ hf => ?_)
      · refine v_run C0 tbX5 cokX5_ready (pc' := 67) (lv' := [(0, .ref a0), (1, .int x1), (2, .int x2), (4, .int x4), (5, .int x5), (6, .int x6)]) (st' := [.int x6, .ref a0, .int x4]) (h' := h) 2 rfl trivial ?_
        obtain ⟨r8, e8, hf⟩ := q_bd hf
        refine v_callV C0 cokX5_ready rfl (rest := [.int x4]) (ctX5_cleansOf a0 x6 ta0 e8) calX5_cleansOf lkX5_130 inX5_cleansOf dnX5_cleansOf (ci := 5) ⟨rfl, by decide⟩ ta0 rfl rfl ⟨by decide, by decide⟩ (Nat.le_of_ble_eq_true rfl) (Nat.le_refl _) (Nat.le_refl _) ?_
        refine v_run C0 tbX5 cokX5_ready (pc' := 74) (lv' := [(0, .ref a0), (1, .int x1), (2, .int x2), (4, .int x4), (5, .int x5), (6, .int x6)]) (st' := [.int r8, .int x4]) (h' := h) 1 rfl trivial ?_
        refine v_pick [0, 1, 2, 4, 5] rfl ?_
        exact n74 h x5 x6 r8 x4 hf
      · refine v_run C0 tbX5 cokX5_ready (pc' := 74) (lv' := [(0, .ref a0), (1, .int x1), (2, .int x2), (4, .int x4), (5, .int x5), (6, .int x6)]) (st' := [.int (0 : Int32), .int x4]) (h' := h) 1 rfl trivial ?_
        refine v_pick [0, 1, 2, 4, 5] rfl ?_
        exact n74 h x5 x6 (0 : Int32) x4 hf
  have n129 : ∀ (x4 : Int32) (x5 : Int32) (o : (Int32 × q_Hp)) (s1 : (Int32 × Int32 × q_Hp)), q_loop (fun s => fX5_ready_129 σ a0 x1 x2 x4 x5 s.1 s.2.1 s.2.2) q_N s1 = some o → V p l e { frames := 3, cells := 0, slots := 0, locals := 71 } s m args below meth c (MQ below (q_Qc D cy b0 (some (.int r)) σ h') args s 0 0 (fun q => b0 ≤ q)) D cy b0 8 0 0 0 0 σ o.2 188 [(0, .ref a0), (1, .int x1), (2, .int x2), (4, .int x4), (6, .int o.1)] [] → V p l e { frames := 3, cells := 0, slots := 0, locals := 71 } s m args below meth c (MQ below (q_Qc D cy b0 (some (.int r)) σ h') args s 0 0 (fun q => b0 ≤ q)) D cy b0 8 0 0 0 0 σ s1.2.2 129 [(0, .ref a0), (1, .int x1), (2, .int x2), (4, .int x4), (5, .int x5), (6, .int s1.1), (7, .int s1.2.1)] [] := by
    intro x4 x5 o s1 ho kx1
    refine q_loop_V (P := fun s0 => V p l e { frames := 3, cells := 0, slots := 0, locals := 71 } s m args below meth c (MQ below (q_Qc D cy b0 (some (.int r)) σ h') args s 0 0 (fun q => b0 ≤ q)) D cy b0 8 0 0 0 0 σ s0.2.2 129 [(0, .ref a0), (1, .int x1), (2, .int x2), (4, .int x4), (5, .int x5), (6, .int s0.1), (7, .int s0.2.1)] []) (o := o) ?_ q_N s1 ho
    intro s2 z1 hf kb1 kr1
    obtain ⟨x6, x7, h⟩ := s2
    replace hf : fX5_ready_129 σ a0 x1 x2 x4 x5 x6 x7 h = some z1 := hf
    unfold fX5_ready_129 at hf
    show V p l e { frames := 3, cells := 0, slots := 0, locals := 71 } s m args below meth c (MQ below (q_Qc D cy b0 (some (.int r)) σ h') args s 0 0 (fun q => b0 ≤ q)) D cy b0 8 0 0 0 0 σ h 129 [(0, .ref a0), (1, .int x1), (2, .int x2), (4, .int x4), (5, .int x5), (6, .int x6), (7, .int x7)] []
    have n182 : ∀ (h : q_Hp) (x6 : Int32) (x7 : Int32), fX5_ready_182 σ h a0 x1 x2 x4 x5 x6 x7 = some z1 → V p l e { frames := 3, cells := 0, slots := 0, locals := 71 } s m args below meth c (MQ below (q_Qc D cy b0 (some (.int r)) σ h') args s 0 0 (fun q => b0 ≤ q)) D cy b0 8 0 0 0 0 σ h 182 [(0, .ref a0), (1, .int x1), (2, .int x2), (4, .int x4), (5, .int x5), (6, .int x6), (7, .int x7)] [] := by
      intro h x6 x7 hf
      unfold fX5_ready_182 at hf
      refine v_run C0 tbX5 cokX5_ready (pc' := 129) (lv' := [(7, .int (x7 + (1 : Int32))), (0, .ref a0), (1, .int x1), (2, .int x2), (4, .int x4), (5, .int x5), (6, .int x6)]) (st' := []) (h' := h) 2 rfl trivial ?_
      obtain rfl := Option.some.inj hf
      refine v_pick [1, 2, 3, 4, 5, 6, 0] rfl ?_
      exact kb1 _ rfl
    have n180 : ∀ (h : q_Hp) (x7 : Int32) (s0 : Int32), fX5_ready_180 σ h a0 x1 x2 x4 x5 x7 s0 = some z1 → V p l e { frames := 3, cells := 0, slots := 0, locals := 71 } s m args below meth c (MQ below (q_Qc D cy b0 (some (.int r)) σ h') args s 0 0 (fun q => b0 ≤ q)) D cy b0 8 0 0 0 0 σ h 180 [(0, .ref a0), (1, .int x1), (2, .int x2), (4, .int x4), (5, .int x5), (7, .int x7)] [.int s0] := by
      intro h x7 s0 hf
      unfold fX5_ready_180 at hf
      refine v_run C0 tbX5 cokX5_ready (pc' := 182) (lv' := [(6, .int s0), (0, .ref a0), (1, .int x1), (2, .int x2), (4, .int x4), (5, .int x5), (7, .int x7)]) (st' := []) (h' := h) 1 rfl trivial ?_
      refine v_pick [1, 2, 3, 4, 5, 0, 6] rfl ?_
      exact n182 h s0 x7 hf
    refine v_run C0 tbX5 cokX5_ready (pc' := 137) (lv' := [(0, .ref a0), (1, .int x1), (2, .int x2), (4, .int x4), (5, .int x5), (6, .int x6), (7, .int x7)]) (st' := [.int ((1 : Int32) <<< ((q_int h a0 0) &&& 31)), .int x7]) (h' := h) 5 rfl ⟨ta0, trivial⟩ ?_
    refine v_icmp_ge C0 cokX5_ready rfl 188 (by decide) hf (fun _ hf => ?_) (fun _ hf => ?_)
    · obtain rfl := Option.some.inj hf
      refine v_pick [0, 1, 2, 3, 5] rfl ?_
      have hx := kr1 _ rfl
      subst hx
      exact kx1
    · refine v_run C0 tbX5 cokX5_ready (pc' := 147) (lv' := [(0, .ref a0), (1, .int x1), (2, .int x2), (4, .int x4), (5, .int x5), (6, .int x6), (7, .int x7)]) (st' := [.int (x7 &&& (x5 ^^^ (-1 : Int32)))]) (h' := h) 5 rfl trivial ?_
      refine v_if_ne C0 cokX5_ready rfl 182 (by decide) hf (fun _ hf => ?_) (fun _ hf => ?_)
      · refine v_run C0 tbX5 cokX5_ready (pc' := 152) (lv' := [(0, .ref a0), (1, .int x1), (2, .int x2), (4, .int x4), (5, .int x5), (6, .int x6), (7, .int x7)]) (st' := [.int x7]) (h' := h) 1 rfl trivial ?_
        obtain ⟨r12, e12, hf⟩ := q_bd hf
        refine v_callS C0 cokX5_ready rfl (rest := []) (ctX5_onesOf x7 e12) calX5_onesOf lkX5_291 inX5_onesOf dnX5_onesOf rfl rfl ⟨by decide, by decide⟩ (Nat.le_of_ble_eq_true rfl) (Nat.le_refl _) (Nat.le_refl _) ?_
        refine v_run C0 tbX5 cokX5_ready (pc' := 157) (lv' := [(0, .ref a0), (1, .int x1), (2, .int x2), (4, .int x4), (5, .int x5), (6, .int x6), (7, .int x7)]) (st' := [.int x6, .int r12]) (h' := h) 1 rfl trivial ?_
        obtain ⟨r13, e13, hf⟩ := q_bd hf
        refine v_callS C0 cokX5_ready rfl (rest := [.int r12]) (ctX5_onesOf x6 e13) calX5_onesOf lkX5_291 inX5_onesOf dnX5_onesOf rfl rfl ⟨by decide, by decide⟩ (Nat.le_of_ble_eq_true rfl) (Nat.le_refl _) (Nat.le_refl _) ?_
        refine v_icmp_le C0 cokX5_ready rfl 182 (by decide) hf (fun _ hf => ?_) (fun _ hf => ?_)
        · refine v_pick [0, 1, 2, 3, 4, 5, 6] rfl ?_
          exact n182 h x6 x7 hf
        · refine v_run C0 tbX5 cokX5_ready (pc' := 167) (lv' := [(0, .ref a0), (1, .int x1), (2, .int x2), (4, .int x4), (5, .int x5), (6, .int x6), (7, .int x7)]) (st' := [.int x1, .int x7, .ref a0]) (h' := h) 3 rfl trivial ?_
          obtain ⟨r14, h14, e14, hf⟩ := q_bd2 hf
          refine v_callV C0 cokX5_ready rfl (rest := []) (ctX5_isReady a0 x7 x1 ta0 e14) calX5_isReady lkX5_324 inX5_isReady dnX5_isReady (ci := 5) ⟨rfl, by decide⟩ ta0 rfl rfl ⟨by decide, by decide⟩ (Nat.le_of_ble_eq_true rfl) (Nat.le_refl _) (Nat.le_refl _) ?_
          refine v_if_eq C0 cokX5_ready rfl 178 (by decide) hf (fun _ hf => ?_) (fun _ hf => ?_)
          · refine v_run C0 tbX5 cokX5_ready (pc' := 180) (lv' := [(0, .ref a0), (1, .int x1), (2, .int x2), (4, .int x4), (5, .int x5), (6, .int x6), (7, .int x7)]) (st' := [.int x6]) (h' := h14) 1 rfl trivial ?_
            refine v_pick [0, 1, 2, 3, 4, 6] rfl ?_
            exact n180 h14 x7 x6 hf
          · refine v_run C0 tbX5 cokX5_ready (pc' := 180) (lv' := [(0, .ref a0), (1, .int x1), (2, .int x2), (4, .int x4), (5, .int x5), (6, .int x6), (7, .int x7)]) (st' := [.int x7]) (h' := h14) 2 rfl trivial ?_
            refine v_pick [0, 1, 2, 3, 4, 6] rfl ?_
            exact n180 h14 x7 x7 hf
      · refine v_pick [0, 1, 2, 3, 4, 5, 6] rfl ?_
        exact n182 h x6 x7 hf
  have n26 : ∀ (h : q_Hp) (s0 : Int32), fX5_ready_26 σ h a0 x1 x2 s0 = some (r, h') → V p l e { frames := 3, cells := 0, slots := 0, locals := 71 } s m args below meth c (MQ below (q_Qc D cy b0 (some (.int r)) σ h') args s 0 0 (fun q => b0 ≤ q)) D cy b0 8 0 0 0 0 σ h 26 [(0, .ref a0), (1, .int x1), (2, .int x2)] [.int s0] := by
    intro h s0 hf
    unfold fX5_ready_26 at hf
    refine v_run C0 tbX5 cokX5_ready (pc' := 28) (lv' := [(3, .int s0), (0, .ref a0), (1, .int x1), (2, .int x2)]) (st' := [.int s0]) (h' := h) 2 rfl trivial ?_
    refine v_if_ge C0 cokX5_ready rfl 33 (by decide) hf (fun _ hf => ?_) (fun _ hf => ?_)
    · refine v_run C0 tbX5 cokX5_ready (pc' := 42) (lv' := [(6, .int (0 : Int32)), (5, .int (0 : Int32)), (4, .int (0 : Int32)), (3, .int s0), (0, .ref a0), (1, .int x1), (2, .int x2)]) (st' := []) (h' := h) 6 rfl trivial ?_
      obtain ⟨o3, eo3, hf⟩ := q_bd hf
      refine v_pick [4, 5, 6, 2, 1, 0] rfl ?_
      refine n42 o3 ((0 : Int32), (0 : Int32), (0 : Int32), h) eo3 ?_
      refine v_run C0 tbX5 cokX5_ready (pc' := 129) (lv' := [(7, .int (1 : Int32)), (6, .int (0 : Int32)), (0, .ref a0), (1, .int x1), (2, .int x2), (4, .int o3.1), (5, .int o3.2.1)]) (st' := []) (h' := o3.2.2) 4 rfl trivial ?_
      obtain ⟨o4, eo4, hf⟩ := q_bd hf
      refine v_pick [2, 3, 4, 5, 6, 1, 0] rfl ?_
      refine n129 o3.1 o3.2.1 o4 ((0 : Int32), (1 : Int32), o3.2.2) eo4 ?_
      refine v_run C0 tbX5 cokX5_ready (pc' := 192) (lv' := [(0, .ref a0), (1, .int x1), (2, .int x2), (4, .int o3.1), (6, .int o4.1)]) (st' := [.int x1, .int o4.1, .ref a0]) (h' := o4.2) 3 rfl trivial ?_
      obtain ⟨r5, h5, e5, hf⟩ := q_bd2 hf
      refine v_callV C0 cokX5_ready rfl (rest := []) (ctX5_isReady a0 o4.1 x1 ta0 e5) calX5_isReady lkX5_324 inX5_isReady dnX5_isReady (ci := 5) ⟨rfl, by decide⟩ ta0 rfl rfl ⟨by decide, by decide⟩ (Nat.le_of_ble_eq_true rfl) (Nat.le_refl _) (Nat.le_refl _) ?_
      refine v_run C0 tbX5 cokX5_ready (pc' := 197) (lv' := [(0, .ref a0), (1, .int x1), (2, .int x2), (4, .int o3.1), (6, .int o4.1)]) (st' := [.int x2]) (h' := h5) 2 rfl trivial ?_
      refine v_if_ne C0 cokX5_ready rfl 208 (by decide) hf (fun _ hf => ?_) (fun _ hf => ?_)
      · refine v_run C0 tbX5 cokX5_ready (pc' := 202) (lv' := [(0, .ref a0), (1, .int x1), (2, .int x2), (4, .int o3.1), (6, .int o4.1)]) (st' := [.int o4.1]) (h' := h5) 1 rfl trivial ?_
        obtain ⟨r6, e6, hf⟩ := q_bd hf
        refine v_callS C0 cokX5_ready rfl (rest := []) (ctX5_onesOf o4.1 e6) calX5_onesOf lkX5_291 inX5_onesOf dnX5_onesOf rfl rfl ⟨by decide, by decide⟩ (Nat.le_of_ble_eq_true rfl) (Nat.le_refl _) (Nat.le_refl _) ?_
        refine v_run C0 tbX5 cokX5_ready (pc' := 222) (lv' := [(0, .ref a0), (1, .int x1), (2, .int x2), (4, .int o3.1), (6, .int o4.1)]) (st' := [.int r6]) (h' := h5) 1 rfl trivial ?_
        obtain ⟨rfl, rfl⟩ := Prod.mk.inj (Option.some.inj hf)
        exact v_iret C0 cokX5_ready hr hlk rfl
      · refine v_run C0 tbX5 cokX5_ready (pc' := 210) (lv' := [(0, .ref a0), (1, .int x1), (2, .int x2), (4, .int o3.1), (6, .int o4.1)]) (st' := [.int (1 : Int32), .int x2]) (h' := h5) 2 rfl trivial ?_
        refine v_icmp_ne C0 cokX5_ready rfl 220 (by decide) hf (fun _ hf => ?_) (fun _ hf => ?_)
        · refine v_run C0 tbX5 cokX5_ready (pc' := 222) (lv' := [(0, .ref a0), (1, .int x1), (2, .int x2), (4, .int o3.1), (6, .int o4.1)]) (st' := [.int (q_int h5 a0 41)]) (h' := h5) 3 rfl ⟨ta0, trivial⟩ ?_
          obtain ⟨rfl, rfl⟩ := Prod.mk.inj (Option.some.inj hf)
          exact v_iret C0 cokX5_ready hr hlk rfl
        · refine v_run C0 tbX5 cokX5_ready (pc' := 222) (lv' := [(0, .ref a0), (1, .int x1), (2, .int x2), (4, .int o3.1), (6, .int o4.1)]) (st' := [.int o3.1]) (h' := h5) 1 rfl trivial ?_
          obtain ⟨rfl, rfl⟩ := Prod.mk.inj (Option.some.inj hf)
          exact v_iret C0 cokX5_ready hr hlk rfl
    · refine v_run C0 tbX5 cokX5_ready (pc' := 32) (lv' := [(3, .int s0), (0, .ref a0), (1, .int x1), (2, .int x2)]) (st' := [.int s0]) (h' := h) 1 rfl trivial ?_
      obtain ⟨rfl, rfl⟩ := Prod.mk.inj (Option.some.inj hf)
      exact v_iret C0 cokX5_ready hr hlk rfl
  refine v_run C0 tbX5 cokX5_ready (pc' := 11) (lv' := [(0, .ref a0), (1, .int x1), (2, .int x2)]) (st' := [.long (2 : Int64), .long (0 : Int64), .long (Int32.toInt64 x2)]) (h' := (q_si h a0 21 (0 : Int32))) 7 rfl ⟨ta0, trivial⟩ ?_
  obtain ⟨r1, e1, hf⟩ := q_bd hf
  refine v_callS C0 cokX5_ready rfl (rest := []) (ctX5_in (Int32.toInt64 x2) (0 : Int64) (2 : Int64) e1) calX5_in lkX5_96 inX5_in dnX5_in rfl rfl ⟨by decide, by decide⟩ (Nat.le_of_ble_eq_true rfl) (Nat.le_refl _) (Nat.le_refl _) ?_
  refine v_if_eq C0 cokX5_ready rfl 25 (by decide) hf (fun _ hf => ?_) (fun _ hf => ?_)
  · refine v_run C0 tbX5 cokX5_ready (pc' := 26) (lv' := [(0, .ref a0), (1, .int x1), (2, .int x2)]) (st' := [.int (-1 : Int32)]) (h' := (q_si h a0 21 (0 : Int32))) 1 rfl trivial ?_
    refine v_pick [0, 1, 2] rfl ?_
    exact n26 (q_si h a0 21 (0 : Int32)) (-1 : Int32) hf
  · refine v_run C0 tbX5 cokX5_ready (pc' := 19) (lv' := [(0, .ref a0), (1, .int x1), (2, .int x2)]) (st' := [.int x1, .ref a0]) (h' := (q_si h a0 21 (0 : Int32))) 2 rfl trivial ?_
    obtain ⟨r2, e2, hf⟩ := q_bd hf
    refine v_callV C0 cokX5_ready rfl (rest := []) (ctX5_wrongHours a0 x1 ta0 e2) calX5_wrongHours lkX5_321 inX5_wrongHours dnX5_wrongHours (ci := 5) ⟨rfl, by decide⟩ ta0 rfl rfl ⟨by decide, by decide⟩ (Nat.le_of_ble_eq_true rfl) (Nat.le_refl _) (Nat.le_refl _) ?_
    refine v_run C0 tbX5 cokX5_ready (pc' := 26) (lv' := [(0, .ref a0), (1, .int x1), (2, .int x2)]) (st' := [.int r2]) (h' := (q_si h a0 21 (0 : Int32))) 1 rfl trivial ?_
    refine v_pick [0, 1, 2] rfl ?_
    exact n26 (q_si h a0 21 (0 : Int32)) r2 hf
-- BackByNoonOnMondayModel.comesBy(I)I
noncomputable def fX5_comesBy_32 (σ : q_St) (h : q_Hp) (a0 : Nat) (x1 : Int32) (x3 : Int32) (s0 : Int32) (s1 : Int32) : Option ((Int32 × Int32) ⊕ Int32) := some (Sum.inl ((s1 ||| s0), (x3 + (1 : Int32))))
noncomputable def fX5_comesBy_4 (σ : q_St) (h : q_Hp) (a0 : Nat) (x1 : Int32) (x2 : Int32) (x3 : Int32) : Option ((Int32 × Int32) ⊕ Int32) := (if (q_int h a0 6) ≤ x3 then some (Sum.inr x2) else q_gu ((vp_in x3 (q_len σ (q_ref σ a0 10)))) ((if (q_int h (q_ref σ a0 10) (Int32.toNatClampNeg x3)) < (x1 / (5 : Int32)) then fX5_comesBy_32 σ h a0 x1 x3 (0 : Int32) x2 else fX5_comesBy_32 σ h a0 x1 x3 ((1 : Int32) <<< (x3 &&& 31)) x2)))
noncomputable def fX5_comesBy (σ : q_St) (h : q_Hp) (a0 : Nat) (x1 : Int32) : Option Int32 := q_gu ((q_tag σ (q_ref σ a0 10) = 7)) ((q_loop (fun s => fX5_comesBy_4 σ h a0 x1 s.1 s.2) q_N ((0 : Int32), (0 : Int32))).bind fun o1 => some o1)
def cdX5_comesBy : q_Cd := [(0, .iconst 0), (1, .istore_n 2), (2, .iconst 0), (3, .istore_n 3), (4, .iload_n 3), (5, .aload_n 0), (6, .getfield 100), (9, .if_icmp .ge 31), (12, .iload_n 2), (13, .aload_n 0), (14, .getfield 34), (17, .iload_n 3), (18, .iaload), (19, .iload_n 1), (20, .iconst 5), (21, .idiv), (22, .if_icmp .lt 9), (25, .iconst 1), (26, .iload_n 3), (27, .ishl), (28, .goto 4), (31, .iconst 0), (32, .ior), (33, .istore_n 2), (34, .iinc 3 1), (37, .goto (-33)), (40, .iload_n 2), (41, .ireturn)]
set_option maxRecDepth 100000 in
theorem cokX5_comesBy : q_cok cX5_comesBy cdX5_comesBy := by unfold q_cok; decide +kernel
set_option maxRecDepth 100000 in
set_option maxHeartbeats 4000000 in
theorem ctX5_comesBy {l : Launch} {D : va_G} {cy : Nat → Nat} {b0 : Nat} {σ : q_St} {h : q_Hp} (a0 : Nat) (x1 : Int32) {r : Int32} (ta0 : q_tag σ a0 = 6) (hf : fX5_comesBy σ h a0 x1 = some r) : q_M l yX5_comesBy cX5_comesBy 4 (some .int) 0 0 0 0 D cy b0 σ h [.ref a0, .int x1] (some (.int r)) σ h := by
  unfold fX5_comesBy at hf
  obtain ⟨k0, hf⟩ := q_gu_o hf
  refine q_enter (by decide) (Nat.le_of_ble_eq_true rfl) ?_
  intro p e s m args below meth c C0 hr hlk hnm
  replace C0 : VC p { frames := 0, cells := 0, slots := 0, locals := 0 } s m args meth c D cy b0 4 0 0 RX5 cX5_comesBy := C0
  have n4 : ∀ (o : Int32) (s1 : (Int32 × Int32)), q_loop (fun s => fX5_comesBy_4 σ h a0 x1 s.1 s.2) q_N s1 = some o → V p l e { frames := 0, cells := 0, slots := 0, locals := 0 } s m args below meth c (MQ below (q_Qc D cy b0 (some (.int r)) σ h) args s 0 0 (fun q => b0 ≤ q)) D cy b0 4 0 0 0 0 σ h 40 [(2, .int o)] [] → V p l e { frames := 0, cells := 0, slots := 0, locals := 0 } s m args below meth c (MQ below (q_Qc D cy b0 (some (.int r)) σ h) args s 0 0 (fun q => b0 ≤ q)) D cy b0 4 0 0 0 0 σ h 4 [(0, .ref a0), (1, .int x1), (2, .int s1.1), (3, .int s1.2)] [] := by
    intro o s1 ho kx1
    refine q_loop_V (P := fun s0 => V p l e { frames := 0, cells := 0, slots := 0, locals := 0 } s m args below meth c (MQ below (q_Qc D cy b0 (some (.int r)) σ h) args s 0 0 (fun q => b0 ≤ q)) D cy b0 4 0 0 0 0 σ h 4 [(0, .ref a0), (1, .int x1), (2, .int s0.1), (3, .int s0.2)] []) (o := o) ?_ q_N s1 ho
    intro s2 z1 hf kb1 kr1
    obtain ⟨x2, x3⟩ := s2
    replace hf : fX5_comesBy_4 σ h a0 x1 x2 x3 = some z1 := hf
    unfold fX5_comesBy_4 at hf
    show V p l e { frames := 0, cells := 0, slots := 0, locals := 0 } s m args below meth c (MQ below (q_Qc D cy b0 (some (.int r)) σ h) args s 0 0 (fun q => b0 ≤ q)) D cy b0 4 0 0 0 0 σ h 4 [(0, .ref a0), (1, .int x1), (2, .int x2), (3, .int x3)] []
    have n32 : ∀ (x3 : Int32) (s0 : Int32) (s1 : Int32), fX5_comesBy_32 σ h a0 x1 x3 s0 s1 = some z1 → V p l e { frames := 0, cells := 0, slots := 0, locals := 0 } s m args below meth c (MQ below (q_Qc D cy b0 (some (.int r)) σ h) args s 0 0 (fun q => b0 ≤ q)) D cy b0 4 0 0 0 0 σ h 32 [(0, .ref a0), (1, .int x1), (3, .int x3)] [.int s0, .int s1] := by
      intro x3 s0 s1 hf
      unfold fX5_comesBy_32 at hf
      refine v_run C0 tbX5 cokX5_comesBy (pc' := 4) (lv' := [(3, .int (x3 + (1 : Int32))), (2, .int (s1 ||| s0)), (0, .ref a0), (1, .int x1)]) (st' := []) (h' := h) 4 rfl trivial ?_
      obtain rfl := Option.some.inj hf
      refine v_pick [2, 3, 1, 0] rfl ?_
      exact kb1 _ rfl
    refine v_run C0 tbX5 cokX5_comesBy (pc' := 9) (lv' := [(0, .ref a0), (1, .int x1), (2, .int x2), (3, .int x3)]) (st' := [.int (q_int h a0 6), .int x3]) (h' := h) 3 rfl ⟨ta0, trivial⟩ ?_
    refine v_icmp_ge C0 cokX5_comesBy rfl 40 (by decide) hf (fun _ hf => ?_) (fun _ hf => ?_)
    · obtain rfl := Option.some.inj hf
      refine v_pick [2] rfl ?_
      have hx := kr1 _ rfl
      subst hx
      exact kx1
    · obtain ⟨g2, hf⟩ := q_gu_o hf
      refine v_run C0 tbX5 cokX5_comesBy (pc' := 22) (lv' := [(0, .ref a0), (1, .int x1), (2, .int x2), (3, .int x3)]) (st' := [.int (x1 / (5 : Int32)), .int (q_int h (q_ref σ a0 10) (Int32.toNatClampNeg x3)), .int x2]) (h' := h) 8 rfl ⟨⟨ta0, q_tn k0⟩, ⟨k0, g2⟩, (by decide), trivial⟩ ?_
      refine v_icmp_lt C0 cokX5_comesBy rfl 31 (by decide) hf (fun _ hf => ?_) (fun _ hf => ?_)
      · refine v_run C0 tbX5 cokX5_comesBy (pc' := 32) (lv' := [(0, .ref a0), (1, .int x1), (2, .int x2), (3, .int x3)]) (st' := [.int (0 : Int32), .int x2]) (h' := h) 1 rfl trivial ?_
        refine v_pick [0, 1, 3] rfl ?_
        exact n32 x3 (0 : Int32) x2 hf
      · refine v_run C0 tbX5 cokX5_comesBy (pc' := 32) (lv' := [(0, .ref a0), (1, .int x1), (2, .int x2), (3, .int x3)]) (st' := [.int ((1 : Int32) <<< (x3 &&& 31)), .int x2]) (h' := h) 4 rfl trivial ?_
        refine v_pick [0, 1, 3] rfl ?_
        exact n32 x3 ((1 : Int32) <<< (x3 &&& 31)) x2 hf
  refine v_run C0 tbX5 cokX5_comesBy (pc' := 4) (lv' := [(3, .int (0 : Int32)), (2, .int (0 : Int32)), (0, .ref a0), (1, .int x1)]) (st' := []) (h' := h) 4 rfl trivial ?_
  obtain ⟨o1, eo1, hf⟩ := q_bd hf
  refine v_pick [2, 3, 1, 0] rfl ?_
  refine n4 o1 ((0 : Int32), (0 : Int32)) eo1 ?_
  refine v_run C0 tbX5 cokX5_comesBy (pc' := 41) (lv' := [(2, .int o1)]) (st' := [.int o1]) (h' := h) 1 rfl trivial ?_
  obtain rfl := Option.some.inj hf
  exact v_iret C0 cokX5_comesBy hr hlk rfl
-- BackByNoonOnMondayModel.paidBy(I)I
noncomputable def fX5_paidBy_45 (σ : q_St) (h : q_Hp) (a0 : Nat) (x1 : Int32) (x3 : Int32) (s0 : Int32) (s1 : Int32) : Option ((Int32 × Int32) ⊕ Int32) := some (Sum.inl ((s1 + s0), (x3 + (1 : Int32))))
noncomputable def fX5_paidBy_4 (σ : q_St) (h : q_Hp) (a0 : Nat) (x1 : Int32) (x2 : Int32) (x3 : Int32) : Option ((Int32 × Int32) ⊕ Int32) := (if (q_int h a0 6) ≤ x3 then some (Sum.inr x2) else ((fX5_comesBy σ h a0 x1).bind fun r2 => ((fX5_hasBit σ h r2 x3).bind fun r3 => (if r3 = 0 then fX5_paidBy_45 σ h a0 x1 x3 (0 : Int32) x2 else q_gu ((vp_in x3 (q_len σ (q_ref σ a0 10)))) (((fX5_greater σ h (0 : Int32) ((q_int h (q_ref σ a0 10) (Int32.toNatClampNeg x3)) - (x1 / (4 : Int32)))).bind fun r5 => fX5_paidBy_45 σ h a0 x1 x3 (x1 * r5) x2))))))
noncomputable def fX5_paidBy (σ : q_St) (h : q_Hp) (a0 : Nat) (x1 : Int32) : Option Int32 := q_gu ((q_tag σ (q_ref σ a0 10) = 7)) ((q_loop (fun s => fX5_paidBy_4 σ h a0 x1 s.1 s.2) q_N ((0 : Int32), (0 : Int32))).bind fun o1 => some o1)
def cdX5_paidBy : q_Cd := [(0, .iconst 0), (1, .istore_n 2), (2, .iconst 0), (3, .istore_n 3), (4, .iload_n 3), (5, .aload_n 0), (6, .getfield 100), (9, .if_icmp .ge 44), (12, .iload_n 2), (13, .aload_n 0), (14, .iload_n 1), (15, .invokevirtual 327), (18, .iload_n 3), (19, .invokestatic 243), (22, .ifCond .eq 22), (25, .iload_n 1), (26, .iconst 0), (27, .aload_n 0), (28, .getfield 34), (31, .iload_n 3), (32, .iaload), (33, .iload_n 1), (34, .iconst 4), (35, .idiv), (36, .isub), (37, .invokestatic 258), (40, .imul), (41, .goto 4), (44, .iconst 0), (45, .iadd), (46, .istore_n 2), (47, .iinc 3 1), (50, .goto (-46)), (53, .iload_n 2), (54, .ireturn)]
set_option maxRecDepth 100000 in
theorem cokX5_paidBy : q_cok cX5_paidBy cdX5_paidBy := by unfold q_cok; decide +kernel
set_option maxRecDepth 100000 in
set_option maxHeartbeats 4000000 in
theorem ctX5_paidBy {l : Launch} {D : va_G} {cy : Nat → Nat} {b0 : Nat} {σ : q_St} {h : q_Hp} (a0 : Nat) (x1 : Int32) {r : Int32} (ta0 : q_tag σ a0 = 6) (hf : fX5_paidBy σ h a0 x1 = some r) : q_M l yX5_paidBy cX5_paidBy 4 (some .int) 1 23 0 0 D cy b0 σ h [.ref a0, .int x1] (some (.int r)) σ h := by
  unfold fX5_paidBy at hf
  obtain ⟨k0, hf⟩ := q_gu_o hf
  refine q_enter (by decide) (Nat.le_of_ble_eq_true rfl) ?_
  intro p e s m args below meth c C0 hr hlk hnm
  replace C0 : VC p { frames := 1, cells := 0, slots := 0, locals := 23 } s m args meth c D cy b0 4 0 0 RX5 cX5_paidBy := C0
  have n4 : ∀ (o : Int32) (s1 : (Int32 × Int32)), q_loop (fun s => fX5_paidBy_4 σ h a0 x1 s.1 s.2) q_N s1 = some o → V p l e { frames := 1, cells := 0, slots := 0, locals := 23 } s m args below meth c (MQ below (q_Qc D cy b0 (some (.int r)) σ h) args s 0 0 (fun q => b0 ≤ q)) D cy b0 4 0 0 0 0 σ h 53 [(2, .int o)] [] → V p l e { frames := 1, cells := 0, slots := 0, locals := 23 } s m args below meth c (MQ below (q_Qc D cy b0 (some (.int r)) σ h) args s 0 0 (fun q => b0 ≤ q)) D cy b0 4 0 0 0 0 σ h 4 [(0, .ref a0), (1, .int x1), (2, .int s1.1), (3, .int s1.2)] [] := by
    intro o s1 ho kx1
    refine q_loop_V (P := fun s0 => V p l e { frames := 1, cells := 0, slots := 0, locals := 23 } s m args below meth c (MQ below (q_Qc D cy b0 (some (.int r)) σ h) args s 0 0 (fun q => b0 ≤ q)) D cy b0 4 0 0 0 0 σ h 4 [(0, .ref a0), (1, .int x1), (2, .int s0.1), (3, .int s0.2)] []) (o := o) ?_ q_N s1 ho
    intro s2 z1 hf kb1 kr1
    obtain ⟨x2, x3⟩ := s2
    replace hf : fX5_paidBy_4 σ h a0 x1 x2 x3 = some z1 := hf
    unfold fX5_paidBy_4 at hf
    show V p l e { frames := 1, cells := 0, slots := 0, locals := 23 } s m args below meth c (MQ below (q_Qc D cy b0 (some (.int r)) σ h) args s 0 0 (fun q => b0 ≤ q)) D cy b0 4 0 0 0 0 σ h 4 [(0, .ref a0), (1, .int x1), (2, .int x2), (3, .int x3)] []
    have n45 : ∀ (x3 : Int32) (s0 : Int32) (s1 : Int32), fX5_paidBy_45 σ h a0 x1 x3 s0 s1 = some z1 → V p l e { frames := 1, cells := 0, slots := 0, locals := 23 } s m args below meth c (MQ below (q_Qc D cy b0 (some (.int r)) σ h) args s 0 0 (fun q => b0 ≤ q)) D cy b0 4 0 0 0 0 σ h 45 [(0, .ref a0), (1, .int x1), (3, .int x3)] [.int s0, .int s1] := by
      intro x3 s0 s1 hf
      unfold fX5_paidBy_45 at hf
      refine v_run C0 tbX5 cokX5_paidBy (pc' := 4) (lv' := [(3, .int (x3 + (1 : Int32))), (2, .int (s1 + s0)), (0, .ref a0), (1, .int x1)]) (st' := []) (h' := h) 4 rfl trivial ?_
      obtain rfl := Option.some.inj hf
      refine v_pick [2, 3, 1, 0] rfl ?_
      exact kb1 _ rfl
    refine v_run C0 tbX5 cokX5_paidBy (pc' := 9) (lv' := [(0, .ref a0), (1, .int x1), (2, .int x2), (3, .int x3)]) (st' := [.int (q_int h a0 6), .int x3]) (h' := h) 3 rfl ⟨ta0, trivial⟩ ?_
    refine v_icmp_ge C0 cokX5_paidBy rfl 53 (by decide) hf (fun _ hf => ?_) (fun _ hf => ?_)
    · obtain rfl := Option.some.inj hf
      refine v_pick [2] rfl ?_
      have hx := kr1 _ rfl
      subst hx
      exact kx1
    · refine v_run C0 tbX5 cokX5_paidBy (pc' := 15) (lv' := [(0, .ref a0), (1, .int x1), (2, .int x2), (3, .int x3)]) (st' := [.int x1, .ref a0, .int x2]) (h' := h) 3 rfl trivial ?_
      obtain ⟨r2, e2, hf⟩ := q_bd hf
      refine v_callV C0 cokX5_paidBy rfl (rest := [.int x2]) (ctX5_comesBy a0 x1 ta0 e2) calX5_comesBy lkX5_327 inX5_comesBy dnX5_comesBy (ci := 5) ⟨rfl, by decide⟩ ta0 rfl rfl ⟨by decide, by decide⟩ (Nat.le_of_ble_eq_true rfl) (Nat.le_refl _) (Nat.le_refl _) ?_
      refine v_run C0 tbX5 cokX5_paidBy (pc' := 19) (lv' := [(0, .ref a0), (1, .int x1), (2, .int x2), (3, .int x3)]) (st' := [.int x3, .int r2, .int x2]) (h' := h) 1 rfl trivial ?_
      obtain ⟨r3, e3, hf⟩ := q_bd hf
      refine v_callS C0 cokX5_paidBy rfl (rest := [.int x2]) (ctX5_hasBit r2 x3 e3) calX5_hasBit lkX5_243 inX5_hasBit dnX5_hasBit rfl rfl ⟨by decide, by decide⟩ (Nat.le_of_ble_eq_true rfl) (Nat.le_refl _) (Nat.le_refl _) ?_
      refine v_if_eq C0 cokX5_paidBy rfl 44 (by decide) hf (fun _ hf => ?_) (fun _ hf => ?_)
      · refine v_run C0 tbX5 cokX5_paidBy (pc' := 45) (lv' := [(0, .ref a0), (1, .int x1), (2, .int x2), (3, .int x3)]) (st' := [.int (0 : Int32), .int x2]) (h' := h) 1 rfl trivial ?_
        refine v_pick [0, 1, 3] rfl ?_
        exact n45 x3 (0 : Int32) x2 hf
      · obtain ⟨g4, hf⟩ := q_gu_o hf
        refine v_run C0 tbX5 cokX5_paidBy (pc' := 37) (lv' := [(0, .ref a0), (1, .int x1), (2, .int x2), (3, .int x3)]) (st' := [.int ((q_int h (q_ref σ a0 10) (Int32.toNatClampNeg x3)) - (x1 / (4 : Int32))), .int (0 : Int32), .int x1, .int x2]) (h' := h) 10 rfl ⟨⟨ta0, q_tn k0⟩, ⟨k0, g4⟩, (by decide), trivial⟩ ?_
        obtain ⟨r5, e5, hf⟩ := q_bd hf
        refine v_callS C0 cokX5_paidBy rfl (rest := [.int x1, .int x2]) (ctX5_greater (0 : Int32) ((q_int h (q_ref σ a0 10) (Int32.toNatClampNeg x3)) - (x1 / (4 : Int32))) e5) calX5_greater lkX5_258 inX5_greater dnX5_greater rfl rfl ⟨by decide, by decide⟩ (Nat.le_of_ble_eq_true rfl) (Nat.le_refl _) (Nat.le_refl _) ?_
        refine v_run C0 tbX5 cokX5_paidBy (pc' := 45) (lv' := [(0, .ref a0), (1, .int x1), (2, .int x2), (3, .int x3)]) (st' := [.int (x1 * r5), .int x2]) (h' := h) 2 rfl trivial ?_
        refine v_pick [0, 1, 3] rfl ?_
        exact n45 x3 (x1 * r5) x2 hf
  refine v_run C0 tbX5 cokX5_paidBy (pc' := 4) (lv' := [(3, .int (0 : Int32)), (2, .int (0 : Int32)), (0, .ref a0), (1, .int x1)]) (st' := []) (h' := h) 4 rfl trivial ?_
  obtain ⟨o1, eo1, hf⟩ := q_bd hf
  refine v_pick [2, 3, 1, 0] rfl ?_
  refine n4 o1 ((0 : Int32), (0 : Int32)) eo1 ?_
  refine v_run C0 tbX5 cokX5_paidBy (pc' := 54) (lv' := [(2, .int o1)]) (st' := [.int o1]) (h' := h) 1 rfl trivial ?_
  obtain rfl := Option.some.inj hf
  exact v_iret C0 cokX5_paidBy hr hlk rfl
