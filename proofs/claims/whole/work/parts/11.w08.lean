-- BackByNoonOnMondayModel.bookingComes(IIIII)Z
noncomputable def fX5_bookingComes_25 (σ : q_St) (h : q_Hp) (a0 : Nat) (x1 : Int32) (x2 : Int32) (x3 : Int32) (x4 : Int32) (x5 : Int32) (s0 : Int32) : Option (Int32 × q_Hp) := (if s0 = 0 then q_gu ((s0 = 0 ∨ s0 = 1)) (some (s0, h)) else q_gu ((vp_in (q_int h a0 6) (q_len σ (q_ref σ a0 7))) ∧ (vp_in (q_int (q_si h (q_ref σ a0 7) (Int32.toNatClampNeg (q_int h a0 6)) x1) a0 6) (q_len σ (q_ref σ a0 8))) ∧ (vp_in (q_int (q_si (q_si h (q_ref σ a0 7) (Int32.toNatClampNeg (q_int h a0 6)) x1) (q_ref σ a0 8) (Int32.toNatClampNeg (q_int (q_si h (q_ref σ a0 7) (Int32.toNatClampNeg (q_int h a0 6)) x1) a0 6)) x2) a0 6) (q_len σ (q_ref σ a0 9))) ∧ (vp_in (q_int (q_si (q_si (q_si h (q_ref σ a0 7) (Int32.toNatClampNeg (q_int h a0 6)) x1) (q_ref σ a0 8) (Int32.toNatClampNeg (q_int (q_si h (q_ref σ a0 7) (Int32.toNatClampNeg (q_int h a0 6)) x1) a0 6)) x2) (q_ref σ a0 9) (Int32.toNatClampNeg (q_int (q_si (q_si h (q_ref σ a0 7) (Int32.toNatClampNeg (q_int h a0 6)) x1) (q_ref σ a0 8) (Int32.toNatClampNeg (q_int (q_si h (q_ref σ a0 7) (Int32.toNatClampNeg (q_int h a0 6)) x1) a0 6)) x2) a0 6)) x3) a0 6) (q_len σ (q_ref σ a0 10))) ∧ (vp_in (q_int (q_si (q_si (q_si (q_si h (q_ref σ a0 7) (Int32.toNatClampNeg (q_int h a0 6)) x1) (q_ref σ a0 8) (Int32.toNatClampNeg (q_int (q_si h (q_ref σ a0 7) (Int32.toNatClampNeg (q_int h a0 6)) x1) a0 6)) x2) (q_ref σ a0 9) (Int32.toNatClampNeg (q_int (q_si (q_si h (q_ref σ a0 7) (Int32.toNatClampNeg (q_int h a0 6)) x1) (q_ref σ a0 8) (Int32.toNatClampNeg (q_int (q_si h (q_ref σ a0 7) (Int32.toNatClampNeg (q_int h a0 6)) x1) a0 6)) x2) a0 6)) x3) (q_ref σ a0 10) (Int32.toNatClampNeg (q_int (q_si (q_si (q_si h (q_ref σ a0 7) (Int32.toNatClampNeg (q_int h a0 6)) x1) (q_ref σ a0 8) (Int32.toNatClampNeg (q_int (q_si h (q_ref σ a0 7) (Int32.toNatClampNeg (q_int h a0 6)) x1) a0 6)) x2) (q_ref σ a0 9) (Int32.toNatClampNeg (q_int (q_si (q_si h (q_ref σ a0 7) (Int32.toNatClampNeg (q_int h a0 6)) x1) (q_ref σ a0 8) (Int32.toNatClampNeg (q_int (q_si h (q_ref σ a0 7) (Int32.toNatClampNeg (q_int h a0 6)) x1) a0 6)) x2) a0 6)) x3) a0 6)) x4) a0 6) (q_len σ (q_ref σ a0 11))) ∧ (vp_in (q_int (q_si (q_si (q_si (q_si (q_si h (q_ref σ a0 7) (Int32.toNatClampNeg (q_int h a0 6)) x1) (q_ref σ a0 8) (Int32.toNatClampNeg (q_int (q_si h (q_ref σ a0 7) (Int32.toNatClampNeg (q_int h a0 6)) x1) a0 6)) x2) (q_ref σ a0 9) (Int32.toNatClampNeg (q_int (q_si (q_si h (q_ref σ a0 7) (Int32.toNatClampNeg (q_int h a0 6)) x1) (q_ref σ a0 8) (Int32.toNatClampNeg (q_int (q_si h (q_ref σ a0 7) (Int32.toNatClampNeg (q_int h a0 6)) x1) a0 6)) x2) a0 6)) x3) (q_ref σ a0 10) (Int32.toNatClampNeg (q_int (q_si (q_si (q_si h (q_ref σ a0 7) (Int32.toNatClampNeg (q_int h a0 6)) x1) (q_ref σ a0 8) (Int32.toNatClampNeg (q_int (q_si h (q_ref σ a0 7) (Int32.toNatClampNeg (q_int h a0 6)) x1) a0 6)) x2) (q_ref σ a0 9) (Int32.toNatClampNeg (q_int (q_si (q_si h (q_ref σ a0 7) (Int32.toNatClampNeg (q_int h a0 6)) x1) (q_ref σ a0 8) (Int32.toNatClampNeg (q_int (q_si h (q_ref σ a0 7) (Int32.toNatClampNeg (q_int h a0 6)) x1) a0 6)) x2) a0 6)) x3) a0 6)) x4) (q_ref σ a0 11) (Int32.toNatClampNeg (q_int (q_si (q_si (q_si (q_si h (q_ref σ a0 7) (Int32.toNatClampNeg (q_int h a0 6)) x1) (q_ref σ a0 8) (Int32.toNatClampNeg (q_int (q_si h (q_ref σ a0 7) (Int32.toNatClampNeg (q_int h a0 6)) x1) a0 6)) x2) (q_ref σ a0 9) (Int32.toNatClampNeg (q_int (q_si (q_si h (q_ref σ a0 7) (Int32.toNatClampNeg (q_int h a0 6)) x1) (q_ref σ a0 8) (Int32.toNatClampNeg (q_int (q_si h (q_ref σ a0 7) (Int32.toNatClampNeg (q_int h a0 6)) x1) a0 6)) x2) a0 6)) x3) (q_ref σ a0 10) (Int32.toNatClampNeg (q_int (q_si (q_si (q_si h (q_ref σ a0 7) (Int32.toNatClampNeg (q_int h a0 6)) x1) (q_ref σ a0 8) (Int32.toNatClampNeg (q_int (q_si h (q_ref σ a0 7) (Int32.toNatClampNeg (q_int h a0 6)) x1) a0 6)) x2) (q_ref σ a0 9) (Int32.toNatClampNeg (q_int (q_si (q_si h (q_ref σ a0 7) (Int32.toNatClampNeg (q_int h a0 6)) x1) (q_ref σ a0 8) (Int32.toNatClampNeg (q_int (q_si h (q_ref σ a0 7) (Int32.toNatClampNeg (q_int h a0 6)) x1) a0 6)) x2) a0 6)) x3) a0 6)) x4) a0 6)) x5) a0 6) (q_len σ (q_ref σ a0 12)))) (q_gu ((s0 = 0 ∨ s0 = 1)) (some (s0, (q_si (q_si (q_si (q_si (q_si (q_si (q_si h (q_ref σ a0 7) (Int32.toNatClampNeg (q_int h a0 6)) x1) (q_ref σ a0 8) (Int32.toNatClampNeg (q_int (q_si h (q_ref σ a0 7) (Int32.toNatClampNeg (q_int h a0 6)) x1) a0 6)) x2) (q_ref σ a0 9) (Int32.toNatClampNeg (q_int (q_si (q_si h (q_ref σ a0 7) (Int32.toNatClampNeg (q_int h a0 6)) x1) (q_ref σ a0 8) (Int32.toNatClampNeg (q_int (q_si h (q_ref σ a0 7) (Int32.toNatClampNeg (q_int h a0 6)) x1) a0 6)) x2) a0 6)) x3) (q_ref σ a0 10) (Int32.toNatClampNeg (q_int (q_si (q_si (q_si h (q_ref σ a0 7) (Int32.toNatClampNeg (q_int h a0 6)) x1) (q_ref σ a0 8) (Int32.toNatClampNeg (q_int (q_si h (q_ref σ a0 7) (Int32.toNatClampNeg (q_int h a0 6)) x1) a0 6)) x2) (q_ref σ a0 9) (Int32.toNatClampNeg (q_int (q_si (q_si h (q_ref σ a0 7) (Int32.toNatClampNeg (q_int h a0 6)) x1) (q_ref σ a0 8) (Int32.toNatClampNeg (q_int (q_si h (q_ref σ a0 7) (Int32.toNatClampNeg (q_int h a0 6)) x1) a0 6)) x2) a0 6)) x3) a0 6)) x4) (q_ref σ a0 11) (Int32.toNatClampNeg (q_int (q_si (q_si (q_si (q_si h (q_ref σ a0 7) (Int32.toNatClampNeg (q_int h a0 6)) x1) (q_ref σ a0 8) (Int32.toNatClampNeg (q_int (q_si h (q_ref σ a0 7) (Int32.toNatClampNeg (q_int h a0 6)) x1) a0 6)) x2) (q_ref σ a0 9) (Int32.toNatClampNeg (q_int (q_si (q_si h (q_ref σ a0 7) (Int32.toNatClampNeg (q_int h a0 6)) x1) (q_ref σ a0 8) (Int32.toNatClampNeg (q_int (q_si h (q_ref σ a0 7) (Int32.toNatClampNeg (q_int h a0 6)) x1) a0 6)) x2) a0 6)) x3) (q_ref σ a0 10) (Int32.toNatClampNeg (q_int (q_si (q_si (q_si h (q_ref σ a0 7) (Int32.toNatClampNeg (q_int h a0 6)) x1) (q_ref σ a0 8) (Int32.toNatClampNeg (q_int (q_si h (q_ref σ a0 7) (Int32.toNatClampNeg (q_int h a0 6)) x1) a0 6)) x2) (q_ref σ a0 9) (Int32.toNatClampNeg (q_int (q_si (q_si h (q_ref σ a0 7) (Int32.toNatClampNeg (q_int h a0 6)) x1) (q_ref σ a0 8) (Int32.toNatClampNeg (q_int (q_si h (q_ref σ a0 7) (Int32.toNatClampNeg (q_int h a0 6)) x1) a0 6)) x2) a0 6)) x3) a0 6)) x4) a0 6)) x5) (q_ref σ a0 12) (Int32.toNatClampNeg (q_int (q_si (q_si (q_si (q_si (q_si h (q_ref σ a0 7) (Int32.toNatClampNeg (q_int h a0 6)) x1) (q_ref σ a0 8) (Int32.toNatClampNeg (q_int (q_si h (q_ref σ a0 7) (Int32.toNatClampNeg (q_int h a0 6)) x1) a0 6)) x2) (q_ref σ a0 9) (Int32.toNatClampNeg (q_int (q_si (q_si h (q_ref σ a0 7) (Int32.toNatClampNeg (q_int h a0 6)) x1) (q_ref σ a0 8) (Int32.toNatClampNeg (q_int (q_si h (q_ref σ a0 7) (Int32.toNatClampNeg (q_int h a0 6)) x1) a0 6)) x2) a0 6)) x3) (q_ref σ a0 10) (Int32.toNatClampNeg (q_int (q_si (q_si (q_si h (q_ref σ a0 7) (Int32.toNatClampNeg (q_int h a0 6)) x1) (q_ref σ a0 8) (Int32.toNatClampNeg (q_int (q_si h (q_ref σ a0 7) (Int32.toNatClampNeg (q_int h a0 6)) x1) a0 6)) x2) (q_ref σ a0 9) (Int32.toNatClampNeg (q_int (q_si (q_si h (q_ref σ a0 7) (Int32.toNatClampNeg (q_int h a0 6)) x1) (q_ref σ a0 8) (Int32.toNatClampNeg (q_int (q_si h (q_ref σ a0 7) (Int32.toNatClampNeg (q_int h a0 6)) x1) a0 6)) x2) a0 6)) x3) a0 6)) x4) (q_ref σ a0 11) (Int32.toNatClampNeg (q_int (q_si (q_si (q_si (q_si h (q_ref σ a0 7) (Int32.toNatClampNeg (q_int h a0 6)) x1) (q_ref σ a0 8) (Int32.toNatClampNeg (q_int (q_si h (q_ref σ a0 7) (Int32.toNatClampNeg (q_int h a0 6)) x1) a0 6)) x2) (q_ref σ a0 9) (Int32.toNatClampNeg (q_int (q_si (q_si h (q_ref σ a0 7) (Int32.toNatClampNeg (q_int h a0 6)) x1) (q_ref σ a0 8) (Int32.toNatClampNeg (q_int (q_si h (q_ref σ a0 7) (Int32.toNatClampNeg (q_int h a0 6)) x1) a0 6)) x2) a0 6)) x3) (q_ref σ a0 10) (Int32.toNatClampNeg (q_int (q_si (q_si (q_si h (q_ref σ a0 7) (Int32.toNatClampNeg (q_int h a0 6)) x1) (q_ref σ a0 8) (Int32.toNatClampNeg (q_int (q_si h (q_ref σ a0 7) (Int32.toNatClampNeg (q_int h a0 6)) x1) a0 6)) x2) (q_ref σ a0 9) (Int32.toNatClampNeg (q_int (q_si (q_si h (q_ref σ a0 7) (Int32.toNatClampNeg (q_int h a0 6)) x1) (q_ref σ a0 8) (Int32.toNatClampNeg (q_int (q_si h (q_ref σ a0 7) (Int32.toNatClampNeg (q_int h a0 6)) x1) a0 6)) x2) a0 6)) x3) a0 6)) x4) a0 6)) x5) a0 6)) (9 : Int32)) a0 6 ((q_int (q_si (q_si (q_si (q_si (q_si (q_si h (q_ref σ a0 7) (Int32.toNatClampNeg (q_int h a0 6)) x1) (q_ref σ a0 8) (Int32.toNatClampNeg (q_int (q_si h (q_ref σ a0 7) (Int32.toNatClampNeg (q_int h a0 6)) x1) a0 6)) x2) (q_ref σ a0 9) (Int32.toNatClampNeg (q_int (q_si (q_si h (q_ref σ a0 7) (Int32.toNatClampNeg (q_int h a0 6)) x1) (q_ref σ a0 8) (Int32.toNatClampNeg (q_int (q_si h (q_ref σ a0 7) (Int32.toNatClampNeg (q_int h a0 6)) x1) a0 6)) x2) a0 6)) x3) (q_ref σ a0 10) (Int32.toNatClampNeg (q_int (q_si (q_si (q_si h (q_ref σ a0 7) (Int32.toNatClampNeg (q_int h a0 6)) x1) (q_ref σ a0 8) (Int32.toNatClampNeg (q_int (q_si h (q_ref σ a0 7) (Int32.toNatClampNeg (q_int h a0 6)) x1) a0 6)) x2) (q_ref σ a0 9) (Int32.toNatClampNeg (q_int (q_si (q_si h (q_ref σ a0 7) (Int32.toNatClampNeg (q_int h a0 6)) x1) (q_ref σ a0 8) (Int32.toNatClampNeg (q_int (q_si h (q_ref σ a0 7) (Int32.toNatClampNeg (q_int h a0 6)) x1) a0 6)) x2) a0 6)) x3) a0 6)) x4) (q_ref σ a0 11) (Int32.toNatClampNeg (q_int (q_si (q_si (q_si (q_si h (q_ref σ a0 7) (Int32.toNatClampNeg (q_int h a0 6)) x1) (q_ref σ a0 8) (Int32.toNatClampNeg (q_int (q_si h (q_ref σ a0 7) (Int32.toNatClampNeg (q_int h a0 6)) x1) a0 6)) x2) (q_ref σ a0 9) (Int32.toNatClampNeg (q_int (q_si (q_si h (q_ref σ a0 7) (Int32.toNatClampNeg (q_int h a0 6)) x1) (q_ref σ a0 8) (Int32.toNatClampNeg (q_int (q_si h (q_ref σ a0 7) (Int32.toNatClampNeg (q_int h a0 6)) x1) a0 6)) x2) a0 6)) x3) (q_ref σ a0 10) (Int32.toNatClampNeg (q_int (q_si (q_si (q_si h (q_ref σ a0 7) (Int32.toNatClampNeg (q_int h a0 6)) x1) (q_ref σ a0 8) (Int32.toNatClampNeg (q_int (q_si h (q_ref σ a0 7) (Int32.toNatClampNeg (q_int h a0 6)) x1) a0 6)) x2) (q_ref σ a0 9) (Int32.toNatClampNeg (q_int (q_si (q_si h (q_ref σ a0 7) (Int32.toNatClampNeg (q_int h a0 6)) x1) (q_ref σ a0 8) (Int32.toNatClampNeg (q_int (q_si h (q_ref σ a0 7) (Int32.toNatClampNeg (q_int h a0 6)) x1) a0 6)) x2) a0 6)) x3) a0 6)) x4) a0 6)) x5) (q_ref σ a0 12) (Int32.toNatClampNeg (q_int (q_si (q_si (q_si (q_si (q_si h (q_ref σ a0 7) (Int32.toNatClampNeg (q_int h a0 6)) x1) (q_ref σ a0 8) (Int32.toNatClampNeg (q_int (q_si h (q_ref σ a0 7) (Int32.toNatClampNeg (q_int h a0 6)) x1) a0 6)) x2) (q_ref σ a0 9) (Int32.toNatClampNeg (q_int (q_si (q_si h (q_ref σ a0 7) (Int32.toNatClampNeg (q_int h a0 6)) x1) (q_ref σ a0 8) (Int32.toNatClampNeg (q_int (q_si h (q_ref σ a0 7) (Int32.toNatClampNeg (q_int h a0 6)) x1) a0 6)) x2) a0 6)) x3) (q_ref σ a0 10) (Int32.toNatClampNeg (q_int (q_si (q_si (q_si h (q_ref σ a0 7) (Int32.toNatClampNeg (q_int h a0 6)) x1) (q_ref σ a0 8) (Int32.toNatClampNeg (q_int (q_si h (q_ref σ a0 7) (Int32.toNatClampNeg (q_int h a0 6)) x1) a0 6)) x2) (q_ref σ a0 9) (Int32.toNatClampNeg (q_int (q_si (q_si h (q_ref σ a0 7) (Int32.toNatClampNeg (q_int h a0 6)) x1) (q_ref σ a0 8) (Int32.toNatClampNeg (q_int (q_si h (q_ref σ a0 7) (Int32.toNatClampNeg (q_int h a0 6)) x1) a0 6)) x2) a0 6)) x3) a0 6)) x4) (q_ref σ a0 11) (Int32.toNatClampNeg (q_int (q_si (q_si (q_si (q_si h (q_ref σ a0 7) (Int32.toNatClampNeg (q_int h a0 6)) x1) (q_ref σ a0 8) (Int32.toNatClampNeg (q_int (q_si h (q_ref σ a0 7) (Int32.toNatClampNeg (q_int h a0 6)) x1) a0 6)) x2) (q_ref σ a0 9) (Int32.toNatClampNeg (q_int (q_si (q_si h (q_ref σ a0 7) (Int32.toNatClampNeg (q_int h a0 6)) x1) (q_ref σ a0 8) (Int32.toNatClampNeg (q_int (q_si h (q_ref σ a0 7) (Int32.toNatClampNeg (q_int h a0 6)) x1) a0 6)) x2) a0 6)) x3) (q_ref σ a0 10) (Int32.toNatClampNeg (q_int (q_si (q_si (q_si h (q_ref σ a0 7) (Int32.toNatClampNeg (q_int h a0 6)) x1) (q_ref σ a0 8) (Int32.toNatClampNeg (q_int (q_si h (q_ref σ a0 7) (Int32.toNatClampNeg (q_int h a0 6)) x1) a0 6)) x2) (q_ref σ a0 9) (Int32.toNatClampNeg (q_int (q_si (q_si h (q_ref σ a0 7) (Int32.toNatClampNeg (q_int h a0 6)) x1) (q_ref σ a0 8) (Int32.toNatClampNeg (q_int (q_si h (q_ref σ a0 7) (Int32.toNatClampNeg (q_int h a0 6)) x1) a0 6)) x2) a0 6)) x3) a0 6)) x4) a0 6)) x5) a0 6)) (9 : Int32)) a0 6) + (1 : Int32)))))))
noncomputable def fX5_bookingComes_24 (σ : q_St) (h : q_Hp) (a0 : Nat) (x1 : Int32) (x2 : Int32) (x3 : Int32) (x4 : Int32) (x5 : Int32) : Option (Int32 × q_Hp) := fX5_bookingComes_25 σ h a0 x1 x2 x3 x4 x5 (0 : Int32)
noncomputable def fX5_bookingComes (σ : q_St) (h : q_Hp) (a0 : Nat) (x1 : Int32) (x2 : Int32) (x3 : Int32) (x4 : Int32) (x5 : Int32) : Option (Int32 × q_Hp) := q_gu ((q_tag σ (q_ref σ a0 7) = 7) ∧ (q_tag σ (q_ref σ a0 8) = 7) ∧ (q_tag σ (q_ref σ a0 9) = 7) ∧ (q_tag σ (q_ref σ a0 10) = 7) ∧ (q_tag σ (q_ref σ a0 11) = 7) ∧ (q_tag σ (q_ref σ a0 12) = 7)) ((if (20 : Int32) < x1 then fX5_bookingComes_24 σ h a0 x1 x2 x3 x4 x5 else (if (4 : Int32) ≤ x2 then fX5_bookingComes_24 σ h a0 x1 x2 x3 x4 x5 else (if (7 : Int32) ≤ (q_int h a0 6) then fX5_bookingComes_24 σ h a0 x1 x2 x3 x4 x5 else fX5_bookingComes_25 σ h a0 x1 x2 x3 x4 x5 (1 : Int32)))))
def cdX5_bookingComes : q_Cd := [(0, .iload_n 1), (1, .bipush 20), (3, .if_icmp .gt 21), (6, .iload_n 2), (7, .iconst 4), (8, .if_icmp .ge 16), (11, .aload_n 0), (12, .getfield 100), (15, .bipush 7), (17, .if_icmp .ge 7), (20, .iconst 1), (21, .goto 4), (24, .iconst 0), (25, .istore 6), (27, .iload 6), (29, .ifCond .eq 76), (32, .aload_n 0), (33, .getfield 25), (36, .aload_n 0), (37, .getfield 100), (40, .iload_n 1), (41, .iastore), (42, .aload_n 0), (43, .getfield 28), (46, .aload_n 0), (47, .getfield 100), (50, .iload_n 2), (51, .iastore), (52, .aload_n 0), (53, .getfield 31), (56, .aload_n 0), (57, .getfield 100), (60, .iload_n 3), (61, .iastore), (62, .aload_n 0), (63, .getfield 34), (66, .aload_n 0), (67, .getfield 100), (70, .iload 4), (72, .iastore), (73, .aload_n 0), (74, .getfield 37), (77, .aload_n 0), (78, .getfield 100), (81, .iload 5), (83, .iastore), (84, .aload_n 0), (85, .getfield 40), (88, .aload_n 0), (89, .getfield 100), (92, .bipush 9), (94, .iastore), (95, .aload_n 0), (96, .dup), (97, .getfield 100), (100, .iconst 1), (101, .iadd), (102, .putfield 100), (105, .iload 6), (107, .ireturn)]
set_option maxRecDepth 100000 in
theorem cokX5_bookingComes : q_cok cX5_bookingComes cdX5_bookingComes := by unfold q_cok; decide +kernel
set_option maxRecDepth 100000 in
set_option maxHeartbeats 4000000 in
theorem ctX5_bookingComes {l : Launch} {D : va_G} {cy : Nat → Nat} {b0 : Nat} {σ : q_St} {h : q_Hp} (a0 : Nat) (x1 : Int32) (x2 : Int32) (x3 : Int32) (x4 : Int32) (x5 : Int32) {r : Int32} {h' : q_Hp} (ta0 : q_tag σ a0 = 6) (hf : fX5_bookingComes σ h a0 x1 x2 x3 x4 x5 = some (r, h')) : q_M l yX5_bookingComes cX5_bookingComes 7 (some .boolean) 0 0 0 0 D cy b0 σ h [.ref a0, .int x1, .int x2, .int x3, .int x4, .int x5] (some (.int r)) σ h' := by
  unfold fX5_bookingComes at hf
  obtain ⟨⟨k0, k1, k2, k3, k4, k5⟩, hf⟩ := q_gu_o hf
  refine q_enter (by decide) (Nat.le_of_ble_eq_true rfl) ?_
  intro p e s m args below meth c C0 hr hlk _
  replace C0 : VC p { frames := 0, cells := 0, slots := 0, locals := 0 } s m args meth c D cy b0 7 0 0 RX5 cX5_bookingComes := C0
  have n25 : ∀ (h : q_Hp) (s0 : Int32), fX5_bookingComes_25 σ h a0 x1 x2 x3 x4 x5 s0 = some (r, h') → V p l e { frames := 0, cells := 0, slots := 0, locals := 0 } s m args below meth c (MQ below (q_Qc D cy b0 (some (.int r)) σ h') args s 0 0 (fun q => b0 ≤ q)) D cy b0 7 0 0 0 0 σ h 25 [(0, .ref a0), (1, .int x1), (2, .int x2), (3, .int x3), (4, .int x4), (5, .int x5)] [.int s0] := by
    intro h s0 hf
    unfold fX5_bookingComes_25 at hf
    refine v_run C0 tbX5 cokX5_bookingComes (pc' := 29) (lv' := [(6, .int s0), (0, .ref a0), (1, .int x1), (2, .int x2), (3, .int x3), (4, .int x4), (5, .int x5)]) (st' := [.int s0]) (h' := h) 2 rfl trivial ?_
    refine v_if_eq C0 cokX5_bookingComes rfl 105 (by decide) hf (fun _ hf => ?_) (fun _ hf => ?_)
    · refine v_run C0 tbX5 cokX5_bookingComes (pc' := 107) (lv' := [(6, .int s0), (0, .ref a0), (1, .int x1), (2, .int x2), (3, .int x3), (4, .int x4), (5, .int x5)]) (st' := [.int s0]) (h' := h) 1 rfl trivial ?_
      obtain ⟨g1, hf⟩ := q_gu_o hf
      cases hf
      exact v_zret C0 cokX5_bookingComes hr hlk rfl g1
    · obtain ⟨⟨g2, g3, g4, g5, g6, g7⟩, hf⟩ := q_gu_o hf
      refine v_run C0 tbX5 cokX5_bookingComes (pc' := 107) (lv' := [(6, .int s0), (0, .ref a0), (1, .int x1), (2, .int x2), (3, .int x3), (4, .int x4), (5, .int x5)]) (st' := [.int s0]) (h' := (q_si (q_si (q_si (q_si (q_si (q_si (q_si h (q_ref σ a0 7) (Int32.toNatClampNeg (q_int h a0 6)) x1) (q_ref σ a0 8) (Int32.toNatClampNeg (q_int (q_si h (q_ref σ a0 7) (Int32.toNatClampNeg (q_int h a0 6)) x1) a0 6)) x2) (q_ref σ a0 9) (Int32.toNatClampNeg (q_int (q_si (q_si h (q_ref σ a0 7) (Int32.toNatClampNeg (q_int h a0 6)) x1) (q_ref σ a0 8) (Int32.toNatClampNeg (q_int (q_si h (q_ref σ a0 7) (Int32.toNatClampNeg (q_int h a0 6)) x1) a0 6)) x2) a0 6)) x3) (q_ref σ a0 10) (Int32.toNatClampNeg (q_int (q_si (q_si (q_si h (q_ref σ a0 7) (Int32.toNatClampNeg (q_int h a0 6)) x1) (q_ref σ a0 8) (Int32.toNatClampNeg (q_int (q_si h (q_ref σ a0 7) (Int32.toNatClampNeg (q_int h a0 6)) x1) a0 6)) x2) (q_ref σ a0 9) (Int32.toNatClampNeg (q_int (q_si (q_si h (q_ref σ a0 7) (Int32.toNatClampNeg (q_int h a0 6)) x1) (q_ref σ a0 8) (Int32.toNatClampNeg (q_int (q_si h (q_ref σ a0 7) (Int32.toNatClampNeg (q_int h a0 6)) x1) a0 6)) x2) a0 6)) x3) a0 6)) x4) (q_ref σ a0 11) (Int32.toNatClampNeg (q_int (q_si (q_si (q_si (q_si h (q_ref σ a0 7) (Int32.toNatClampNeg (q_int h a0 6)) x1) (q_ref σ a0 8) (Int32.toNatClampNeg (q_int (q_si h (q_ref σ a0 7) (Int32.toNatClampNeg (q_int h a0 6)) x1) a0 6)) x2) (q_ref σ a0 9) (Int32.toNatClampNeg (q_int (q_si (q_si h (q_ref σ a0 7) (Int32.toNatClampNeg (q_int h a0 6)) x1) (q_ref σ a0 8) (Int32.toNatClampNeg (q_int (q_si h (q_ref σ a0 7) (Int32.toNatClampNeg (q_int h a0 6)) x1) a0 6)) x2) a0 6)) x3) (q_ref σ a0 10) (Int32.toNatClampNeg (q_int (q_si (q_si (q_si h (q_ref σ a0 7) (Int32.toNatClampNeg (q_int h a0 6)) x1) (q_ref σ a0 8) (Int32.toNatClampNeg (q_int (q_si h (q_ref σ a0 7) (Int32.toNatClampNeg (q_int h a0 6)) x1) a0 6)) x2) (q_ref σ a0 9) (Int32.toNatClampNeg (q_int (q_si (q_si h (q_ref σ a0 7) (Int32.toNatClampNeg (q_int h a0 6)) x1) (q_ref σ a0 8) (Int32.toNatClampNeg (q_int (q_si h (q_ref σ a0 7) (Int32.toNatClampNeg (q_int h a0 6)) x1) a0 6)) x2) a0 6)) x3) a0 6)) x4) a0 6)) x5) (q_ref σ a0 12) (Int32.toNatClampNeg (q_int (q_si (q_si (q_si (q_si (q_si h (q_ref σ a0 7) (Int32.toNatClampNeg (q_int h a0 6)) x1) (q_ref σ a0 8) (Int32.toNatClampNeg (q_int (q_si h (q_ref σ a0 7) (Int32.toNatClampNeg (q_int h a0 6)) x1) a0 6)) x2) (q_ref σ a0 9) (Int32.toNatClampNeg (q_int (q_si (q_si h (q_ref σ a0 7) (Int32.toNatClampNeg (q_int h a0 6)) x1) (q_ref σ a0 8) (Int32.toNatClampNeg (q_int (q_si h (q_ref σ a0 7) (Int32.toNatClampNeg (q_int h a0 6)) x1) a0 6)) x2) a0 6)) x3) (q_ref σ a0 10) (Int32.toNatClampNeg (q_int (q_si (q_si (q_si h (q_ref σ a0 7) (Int32.toNatClampNeg (q_int h a0 6)) x1) (q_ref σ a0 8) (Int32.toNatClampNeg (q_int (q_si h (q_ref σ a0 7) (Int32.toNatClampNeg (q_int h a0 6)) x1) a0 6)) x2) (q_ref σ a0 9) (Int32.toNatClampNeg (q_int (q_si (q_si h (q_ref σ a0 7) (Int32.toNatClampNeg (q_int h a0 6)) x1) (q_ref σ a0 8) (Int32.toNatClampNeg (q_int (q_si h (q_ref σ a0 7) (Int32.toNatClampNeg (q_int h a0 6)) x1) a0 6)) x2) a0 6)) x3) a0 6)) x4) (q_ref σ a0 11) (Int32.toNatClampNeg (q_int (q_si (q_si (q_si (q_si h (q_ref σ a0 7) (Int32.toNatClampNeg (q_int h a0 6)) x1) (q_ref σ a0 8) (Int32.toNatClampNeg (q_int (q_si h (q_ref σ a0 7) (Int32.toNatClampNeg (q_int h a0 6)) x1) a0 6)) x2) (q_ref σ a0 9) (Int32.toNatClampNeg (q_int (q_si (q_si h (q_ref σ a0 7) (Int32.toNatClampNeg (q_int h a0 6)) x1) (q_ref σ a0 8) (Int32.toNatClampNeg (q_int (q_si h (q_ref σ a0 7) (Int32.toNatClampNeg (q_int h a0 6)) x1) a0 6)) x2) a0 6)) x3) (q_ref σ a0 10) (Int32.toNatClampNeg (q_int (q_si (q_si (q_si h (q_ref σ a0 7) (Int32.toNatClampNeg (q_int h a0 6)) x1) (q_ref σ a0 8) (Int32.toNatClampNeg (q_int (q_si h (q_ref σ a0 7) (Int32.toNatClampNeg (q_int h a0 6)) x1) a0 6)) x2) (q_ref σ a0 9) (Int32.toNatClampNeg (q_int (q_si (q_si h (q_ref σ a0 7) (Int32.toNatClampNeg (q_int h a0 6)) x1) (q_ref σ a0 8) (Int32.toNatClampNeg (q_int (q_si h (q_ref σ a0 7) (Int32.toNatClampNeg (q_int h a0 6)) x1) a0 6)) x2) a0 6)) x3) a0 6)) x4) a0 6)) x5) a0 6)) (9 : Int32)) a0 6 ((q_int (q_si (q_si (q_si (q_si (q_si (q_si h (q_ref σ a0 7) (Int32.toNatClampNeg (q_int h a0 6)) x1) (q_ref σ a0 8) (Int32.toNatClampNeg (q_int (q_si h (q_ref σ a0 7) (Int32.toNatClampNeg (q_int h a0 6)) x1) a0 6)) x2) (q_ref σ a0 9) (Int32.toNatClampNeg (q_int (q_si (q_si h (q_ref σ a0 7) (Int32.toNatClampNeg (q_int h a0 6)) x1) (q_ref σ a0 8) (Int32.toNatClampNeg (q_int (q_si h (q_ref σ a0 7) (Int32.toNatClampNeg (q_int h a0 6)) x1) a0 6)) x2) a0 6)) x3) (q_ref σ a0 10) (Int32.toNatClampNeg (q_int (q_si (q_si (q_si h (q_ref σ a0 7) (Int32.toNatClampNeg (q_int h a0 6)) x1) (q_ref σ a0 8) (Int32.toNatClampNeg (q_int (q_si h (q_ref σ a0 7) (Int32.toNatClampNeg (q_int h a0 6)) x1) a0 6)) x2) (q_ref σ a0 9) (Int32.toNatClampNeg (q_int (q_si (q_si h (q_ref σ a0 7) (Int32.toNatClampNeg (q_int h a0 6)) x1) (q_ref σ a0 8) (Int32.toNatClampNeg (q_int (q_si h (q_ref σ a0 7) (Int32.toNatClampNeg (q_int h a0 6)) x1) a0 6)) x2) a0 6)) x3) a0 6)) x4) (q_ref σ a0 11) (Int32.toNatClampNeg (q_int (q_si (q_si (q_si (q_si h (q_ref σ a0 7) (Int32.toNatClampNeg (q_int h a0 6)) x1) (q_ref σ a0 8) (Int32.toNatClampNeg (q_int (q_si h (q_ref σ a0 7) (Int32.toNatClampNeg (q_int h a0 6)) x1) a0 6)) x2) (q_ref σ a0 9) (Int32.toNatClampNeg (q_int (q_si (q_si h (q_ref σ a0 7) (Int32.toNatClampNeg (q_int h a0 6)) x1) (q_ref σ a0 8) (Int32.toNatClampNeg (q_int (q_si h (q_ref σ a0 7) (Int32.toNatClampNeg (q_int h a0 6)) x1) a0 6)) x2) a0 6)) x3) (q_ref σ a0 10) (Int32.toNatClampNeg (q_int (q_si (q_si (q_si h (q_ref σ a0 7) (Int32.toNatClampNeg (q_int h a0 6)) x1) (q_ref σ a0 8) (Int32.toNatClampNeg (q_int (q_si h (q_ref σ a0 7) (Int32.toNatClampNeg (q_int h a0 6)) x1) a0 6)) x2) (q_ref σ a0 9) (Int32.toNatClampNeg (q_int (q_si (q_si h (q_ref σ a0 7) (Int32.toNatClampNeg (q_int h a0 6)) x1) (q_ref σ a0 8) (Int32.toNatClampNeg (q_int (q_si h (q_ref σ a0 7) (Int32.toNatClampNeg (q_int h a0 6)) x1) a0 6)) x2) a0 6)) x3) a0 6)) x4) a0 6)) x5) (q_ref σ a0 12) (Int32.toNatClampNeg (q_int (q_si (q_si (q_si (q_si (q_si h (q_ref σ a0 7) (Int32.toNatClampNeg (q_int h a0 6)) x1) (q_ref σ a0 8) (Int32.toNatClampNeg (q_int (q_si h (q_ref σ a0 7) (Int32.toNatClampNeg (q_int h a0 6)) x1) a0 6)) x2) (q_ref σ a0 9) (Int32.toNatClampNeg (q_int (q_si (q_si h (q_ref σ a0 7) (Int32.toNatClampNeg (q_int h a0 6)) x1) (q_ref σ a0 8) (Int32.toNatClampNeg (q_int (q_si h (q_ref σ a0 7) (Int32.toNatClampNeg (q_int h a0 6)) x1) a0 6)) x2) a0 6)) x3) (q_ref σ a0 10) (Int32.toNatClampNeg (q_int (q_si (q_si (q_si h (q_ref σ a0 7) (Int32.toNatClampNeg (q_int h a0 6)) x1) (q_ref σ a0 8) (Int32.toNatClampNeg (q_int (q_si h (q_ref σ a0 7) (Int32.toNatClampNeg (q_int h a0 6)) x1) a0 6)) x2) (q_ref σ a0 9) (Int32.toNatClampNeg (q_int (q_si (q_si h (q_ref σ a0 7) (Int32.toNatClampNeg (q_int h a0 6)) x1) (q_ref σ a0 8) (Int32.toNatClampNeg (q_int (q_si h (q_ref σ a0 7) (Int32.toNatClampNeg (q_int h a0 6)) x1) a0 6)) x2) a0 6)) x3) a0 6)) x4) (q_ref σ a0 11) (Int32.toNatClampNeg (q_int (q_si (q_si (q_si (q_si h (q_ref σ a0 7) (Int32.toNatClampNeg (q_int h a0 6)) x1) (q_ref σ a0 8) (Int32.toNatClampNeg (q_int (q_si h (q_ref σ a0 7) (Int32.toNatClampNeg (q_int h a0 6)) x1) a0 6)) x2) (q_ref σ a0 9) (Int32.toNatClampNeg (q_int (q_si (q_si h (q_ref σ a0 7) (Int32.toNatClampNeg (q_int h a0 6)) x1) (q_ref σ a0 8) (Int32.toNatClampNeg (q_int (q_si h (q_ref σ a0 7) (Int32.toNatClampNeg (q_int h a0 6)) x1) a0 6)) x2) a0 6)) x3) (q_ref σ a0 10) (Int32.toNatClampNeg (q_int (q_si (q_si (q_si h (q_ref σ a0 7) (Int32.toNatClampNeg (q_int h a0 6)) x1) (q_ref σ a0 8) (Int32.toNatClampNeg (q_int (q_si h (q_ref σ a0 7) (Int32.toNatClampNeg (q_int h a0 6)) x1) a0 6)) x2) (q_ref σ a0 9) (Int32.toNatClampNeg (q_int (q_si (q_si h (q_ref σ a0 7) (Int32.toNatClampNeg (q_int h a0 6)) x1) (q_ref σ a0 8) (Int32.toNatClampNeg (q_int (q_si h (q_ref σ a0 7) (Int32.toNatClampNeg (q_int h a0 6)) x1) a0 6)) x2) a0 6)) x3) a0 6)) x4) a0 6)) x5) a0 6)) (9 : Int32)) a0 6) + (1 : Int32)))) 43 rfl ⟨⟨ta0, q_tn k0⟩, ta0, ⟨k0, g2⟩, ⟨ta0, q_tn k1⟩, ta0, ⟨k1, g3⟩, ⟨ta0, q_tn k2⟩, ta0, ⟨k2, g4⟩, ⟨ta0, q_tn k3⟩, ta0, ⟨k3, g5⟩, ⟨ta0, q_tn k4⟩, ta0, ⟨k4, g6⟩, ⟨ta0, q_tn k5⟩, ta0, ⟨k5, g7⟩, ta0, ta0, trivial⟩ ?_
      obtain ⟨g8, hf⟩ := q_gu_o hf
      cases hf
      exact v_zret C0 cokX5_bookingComes hr hlk rfl g8
  have n24 : ∀ (h : q_Hp), fX5_bookingComes_24 σ h a0 x1 x2 x3 x4 x5 = some (r, h') → V p l e { frames := 0, cells := 0, slots := 0, locals := 0 } s m args below meth c (MQ below (q_Qc D cy b0 (some (.int r)) σ h') args s 0 0 (fun q => b0 ≤ q)) D cy b0 7 0 0 0 0 σ h 24 [(0, .ref a0), (1, .int x1), (2, .int x2), (3, .int x3), (4, .int x4), (5, .int x5)] [] := by
    intro h hf
    unfold fX5_bookingComes_24 at hf
    refine v_run C0 tbX5 cokX5_bookingComes (pc' := 25) (lv' := [(0, .ref a0), (1, .int x1), (2, .int x2), (3, .int x3), (4, .int x4), (5, .int x5)]) (st' := [.int (0 : Int32)]) (h' := h) 1 rfl trivial ?_
    refine v_pick [0, 1, 2, 3, 4, 5] rfl ?_
    exact n25 h (0 : Int32) hf
  refine v_run C0 tbX5 cokX5_bookingComes (pc' := 3) (lv' := [(0, .ref a0), (1, .int x1), (2, .int x2), (3, .int x3), (4, .int x4), (5, .int x5)]) (st' := [.int (20 : Int32), .int x1]) (h' := h) 2 rfl trivial ?_
  refine v_icmp_gt C0 cokX5_bookingComes rfl 24 (by decide) hf (fun _ hf => ?_) (fun _ hf => ?_)
  · refine v_pick [0, 1, 2, 3, 4, 5] rfl ?_
    exact n24 h hf
  · refine v_run C0 tbX5 cokX5_bookingComes (pc' := 8) (lv' := [(0, .ref a0), (1, .int x1), (2, .int x2), (3, .int x3), (4, .int x4), (5, .int x5)]) (st' := [.int (4 : Int32), .int x2]) (h' := h) 2 rfl trivial ?_
    refine v_icmp_ge C0 cokX5_bookingComes rfl 24 (by decide) hf (fun _ hf => ?_) (fun _ hf => ?_)
    · refine v_pick [0, 1, 2, 3, 4, 5] rfl ?_
      exact n24 h hf
    · refine v_run C0 tbX5 cokX5_bookingComes (pc' := 17) (lv' := [(0, .ref a0), (1, .int x1), (2, .int x2), (3, .int x3), (4, .int x4), (5, .int x5)]) (st' := [.int (7 : Int32), .int (q_int h a0 6)]) (h' := h) 3 rfl ⟨ta0, trivial⟩ ?_
      refine v_icmp_ge C0 cokX5_bookingComes rfl 24 (by decide) hf (fun _ hf => ?_) (fun _ hf => ?_)
      · refine v_pick [0, 1, 2, 3, 4, 5] rfl ?_
        exact n24 h hf
      · refine v_run C0 tbX5 cokX5_bookingComes (pc' := 25) (lv' := [(0, .ref a0), (1, .int x1), (2, .int x2), (3, .int x3), (4, .int x4), (5, .int x5)]) (st' := [.int (1 : Int32)]) (h' := h) 2 rfl trivial ?_
        refine v_pick [0, 1, 2, 3, 4, 5] rfl ?_
        exact n25 h (1 : Int32) hf
-- BackByNoonOnMondayModel.comesTold(I)Z
noncomputable def fX5_comesTold_160 (σ : q_St) (h : q_Hp) (a0 : Nat) (x1 : Int32) (x3 : Int32) (x4 : Int32) (s0 : Int32) : Option (Int32 × q_Hp) := (if s0 = 0 then q_gu ((s0 = 0 ∨ s0 = 1)) (some (s0, h)) else ((fX5_hire σ h a0 x3 x4).bind fun h25 => q_gu ((s0 = 0 ∨ s0 = 1)) (some (s0, h25))))
noncomputable def fX5_comesTold_159 (σ : q_St) (h : q_Hp) (a0 : Nat) (x1 : Int32) (x3 : Int32) (x4 : Int32) : Option (Int32 × q_Hp) := fX5_comesTold_160 σ h a0 x1 x3 x4 (0 : Int32)
noncomputable def fX5_comesTold_200 (σ : q_St) (h : q_Hp) (a0 : Nat) (x1 : Int32) (x3 : Int32) (s0 : Int32) : Option (Int32 × q_Hp) := (if s0 = 0 then q_gu ((s0 = 0 ∨ s0 = 1)) (some (s0, h)) else ((fX5_comeBack σ h a0 x3).bind fun h31 => q_gu ((s0 = 0 ∨ s0 = 1)) (some (s0, h31))))
noncomputable def fX5_comesTold_199 (σ : q_St) (h : q_Hp) (a0 : Nat) (x1 : Int32) (x3 : Int32) : Option (Int32 × q_Hp) := fX5_comesTold_200 σ h a0 x1 x3 (0 : Int32)
noncomputable def fX5_comesTold_236 (σ : q_St) (h : q_Hp) (a0 : Nat) (x1 : Int32) (x3 : Int32) (s0 : Int32) : Option (Int32 × q_Hp) := (if s0 = 0 then q_gu ((s0 = 0 ∨ s0 = 1)) (some (s0, h)) else ((fX5_clean σ h a0 x3).bind fun h28 => q_gu ((s0 = 0 ∨ s0 = 1)) (some (s0, h28))))
noncomputable def fX5_comesTold_235 (σ : q_St) (h : q_Hp) (a0 : Nat) (x1 : Int32) (x3 : Int32) : Option (Int32 × q_Hp) := fX5_comesTold_236 σ h a0 x1 x3 (0 : Int32)
noncomputable def fX5_comesTold (σ : q_St) (h : q_Hp) (a0 : Nat) (x1 : Int32) : Option (Int32 × q_Hp) := q_gu ((q_tag σ (q_ref σ a0 28) = 7) ∧ (q_tag σ (q_ref σ a0 27) = 7) ∧ (q_tag σ (q_ref σ a0 5) = 7)) (q_gu ((vp_in ((5 : Int32) * x1) (q_len σ (q_ref σ a0 28))) ∧ (vp_in (((5 : Int32) * x1) + (1 : Int32)) (q_len σ (q_ref σ a0 28))) ∧ (vp_in x1 (q_len σ (q_ref σ a0 27)))) ((if (q_int h (q_ref σ a0 27) (Int32.toNatClampNeg x1)) = (98 : Int32) then q_gu ((vp_in (((5 : Int32) * x1) + (2 : Int32)) (q_len σ (q_ref σ a0 28))) ∧ (vp_in (((5 : Int32) * x1) + (3 : Int32)) (q_len σ (q_ref σ a0 28))) ∧ (vp_in (((5 : Int32) * x1) + (4 : Int32)) (q_len σ (q_ref σ a0 28)))) ((q_b2 (fX5_bookingComes σ h a0 (q_int h (q_ref σ a0 28) (Int32.toNatClampNeg ((5 : Int32) * x1))) (q_int h (q_ref σ a0 28) (Int32.toNatClampNeg (((5 : Int32) * x1) + (1 : Int32)))) (q_int h (q_ref σ a0 28) (Int32.toNatClampNeg (((5 : Int32) * x1) + (2 : Int32)))) (q_int h (q_ref σ a0 28) (Int32.toNatClampNeg (((5 : Int32) * x1) + (3 : Int32)))) (q_int h (q_ref σ a0 28) (Int32.toNatClampNeg (((5 : Int32) * x1) + (4 : Int32))))) fun r7 h7 => q_gu ((r7 = 0 ∨ r7 = 1)) (some (r7, h7)))) else (if (q_int h (q_ref σ a0 27) (Int32.toNatClampNeg x1)) = (104 : Int32) then ((fX5_isSuit σ h a0 (q_int h (q_ref σ a0 28) (Int32.toNatClampNeg ((5 : Int32) * x1)))).bind fun r10 => (if r10 = 0 then fX5_comesTold_159 σ h a0 x1 (q_int h (q_ref σ a0 28) (Int32.toNatClampNeg ((5 : Int32) * x1))) (q_int h (q_ref σ a0 28) (Int32.toNatClampNeg (((5 : Int32) * x1) + (1 : Int32)))) else ((fX5_isBooking σ h a0 (q_int h (q_ref σ a0 28) (Int32.toNatClampNeg (((5 : Int32) * x1) + (1 : Int32))))).bind fun r11 => (if r11 = 0 then fX5_comesTold_159 σ h a0 x1 (q_int h (q_ref σ a0 28) (Int32.toNatClampNeg ((5 : Int32) * x1))) (q_int h (q_ref σ a0 28) (Int32.toNatClampNeg (((5 : Int32) * x1) + (1 : Int32)))) else ((fX5_canHire σ h a0 (q_int h (q_ref σ a0 28) (Int32.toNatClampNeg ((5 : Int32) * x1))) (q_int h (q_ref σ a0 28) (Int32.toNatClampNeg (((5 : Int32) * x1) + (1 : Int32))))).bind fun r12 => (if r12 = 0 then fX5_comesTold_159 σ h a0 x1 (q_int h (q_ref σ a0 28) (Int32.toNatClampNeg ((5 : Int32) * x1))) (q_int h (q_ref σ a0 28) (Int32.toNatClampNeg (((5 : Int32) * x1) + (1 : Int32)))) else fX5_comesTold_160 σ h a0 x1 (q_int h (q_ref σ a0 28) (Int32.toNatClampNeg ((5 : Int32) * x1))) (q_int h (q_ref σ a0 28) (Int32.toNatClampNeg (((5 : Int32) * x1) + (1 : Int32)))) (1 : Int32))))))) else (if (q_int h (q_ref σ a0 27) (Int32.toNatClampNeg x1)) = (114 : Int32) then ((fX5_isSuit σ h a0 (q_int h (q_ref σ a0 28) (Int32.toNatClampNeg ((5 : Int32) * x1)))).bind fun r14 => (if r14 = 0 then fX5_comesTold_199 σ h a0 x1 (q_int h (q_ref σ a0 28) (Int32.toNatClampNeg ((5 : Int32) * x1))) else q_gu ((vp_in (q_int h (q_ref σ a0 28) (Int32.toNatClampNeg ((5 : Int32) * x1))) (q_len σ (q_ref σ a0 5)))) ((if (q_int h (q_ref σ a0 5) (Int32.toNatClampNeg (q_int h (q_ref σ a0 28) (Int32.toNatClampNeg ((5 : Int32) * x1))))) = (1 : Int32) then fX5_comesTold_200 σ h a0 x1 (q_int h (q_ref σ a0 28) (Int32.toNatClampNeg ((5 : Int32) * x1))) (1 : Int32) else fX5_comesTold_199 σ h a0 x1 (q_int h (q_ref σ a0 28) (Int32.toNatClampNeg ((5 : Int32) * x1))))))) else (if (q_int h (q_ref σ a0 27) (Int32.toNatClampNeg x1)) = (115 : Int32) then q_gu ((vp_in (((5 : Int32) * x1) + (2 : Int32)) (q_len σ (q_ref σ a0 28))) ∧ (vp_in (((5 : Int32) * x1) + (3 : Int32)) (q_len σ (q_ref σ a0 28)))) ((q_b2 (fX5_suitComes σ h a0 (q_int h (q_ref σ a0 28) (Int32.toNatClampNeg ((5 : Int32) * x1))) (q_int h (q_ref σ a0 28) (Int32.toNatClampNeg (((5 : Int32) * x1) + (1 : Int32)))) (q_int h (q_ref σ a0 28) (Int32.toNatClampNeg (((5 : Int32) * x1) + (2 : Int32)))) (q_int h (q_ref σ a0 28) (Int32.toNatClampNeg (((5 : Int32) * x1) + (3 : Int32))))) fun r19 h19 => q_gu ((r19 = 0 ∨ r19 = 1)) (some (r19, h19)))) else ((fX5_isSuit σ h a0 (q_int h (q_ref σ a0 28) (Int32.toNatClampNeg ((5 : Int32) * x1)))).bind fun r22 => (if r22 = 0 then fX5_comesTold_235 σ h a0 x1 (q_int h (q_ref σ a0 28) (Int32.toNatClampNeg ((5 : Int32) * x1))) else ((fX5_canClean σ h a0 (q_int h (q_ref σ a0 28) (Int32.toNatClampNeg ((5 : Int32) * x1)))).bind fun r23 => (if r23 = 0 then fX5_comesTold_235 σ h a0 x1 (q_int h (q_ref σ a0 28) (Int32.toNatClampNeg ((5 : Int32) * x1))) else fX5_comesTold_236 σ h a0 x1 (q_int h (q_ref σ a0 28) (Int32.toNatClampNeg ((5 : Int32) * x1))) (1 : Int32)))))))))))
def cdX5_comesTold : q_Cd := [(0, .iconst 5), (1, .iload_n 1), (2, .imul), (3, .istore_n 2), (4, .aload_n 0), (5, .getfield 68), (8, .iload_n 2), (9, .iaload), (10, .istore_n 3), (11, .aload_n 0), (12, .getfield 68), (15, .iload_n 2), (16, .iconst 1), (17, .iadd), (18, .iaload), (19, .istore 4), (21, .iconst 1), (22, .istore 5), (24, .aload_n 0), (25, .getfield 65), (28, .iload_n 1), (29, .iaload), (72, .aload_n 0), (73, .iload_n 3), (74, .iload 4), (76, .aload_n 0), (77, .getfield 68), (80, .iload_n 2), (81, .iconst 2), (82, .iadd), (83, .iaload), (84, .aload_n 0), (85, .getfield 68), (88, .iload_n 2), (89, .iconst 3), (90, .iadd), (91, .iaload), (92, .invokevirtual 161), (95, .ireturn), (96, .aload_n 0), (97, .iload_n 3), (98, .iload 4), (100, .aload_n 0), (101, .getfield 68), (104, .iload_n 2), (105, .iconst 2), (106, .iadd), (107, .iaload), (108, .aload_n 0), (109, .getfield 68), (112, .iload_n 2), (113, .iconst 3), (114, .iadd), (115, .iaload), (116, .aload_n 0), (117, .getfield 68), (120, .iload_n 2), (121, .iconst 4), (122, .iadd), (123, .iaload), (124, .invokevirtual 165), (127, .ireturn), (128, .aload_n 0), (129, .iload_n 3), (130, .invokevirtual 169), (133, .ifCond .eq 26), (136, .aload_n 0), (137, .iload 4), (139, .invokevirtual 173), (142, .ifCond .eq 17), (145, .aload_n 0), (146, .iload_n 3), (147, .iload 4), (149, .invokevirtual 176), (152, .ifCond .eq 7), (155, .iconst 1), (156, .goto 4), (159, .iconst 0), (160, .istore 5), (162, .iload 5), (164, .ifCond .eq 10), (167, .aload_n 0), (168, .iload_n 3), (169, .iload 4), (171, .invokevirtual 179), (174, .iload 5), (176, .ireturn), (177, .aload_n 0), (178, .iload_n 3), (179, .invokevirtual 169), (182, .ifCond .eq 17), (185, .aload_n 0), (186, .getfield 22), (189, .iload_n 3), (190, .iaload), (191, .iconst 1), (192, .if_icmp .ne 7), (195, .iconst 1), (196, .goto 4), (199, .iconst 0), (200, .istore 5), (202, .iload 5), (204, .ifCond .eq 8), (207, .aload_n 0), (208, .iload_n 3), (209, .invokevirtual 182), (212, .iload 5), (214, .ireturn), (215, .aload_n 0), (216, .iload_n 3), (217, .invokevirtual 169), (220, .ifCond .eq 15), (223, .aload_n 0), (224, .iload_n 3), (225, .invokevirtual 186), (228, .ifCond .eq 7), (231, .iconst 1), (232, .goto 4), (235, .iconst 0), (236, .istore 5), (238, .iload 5), (240, .ifCond .eq 8), (243, .aload_n 0), (244, .iload_n 3), (245, .invokevirtual 189), (248, .iload 5), (250, .ireturn)]
set_option maxRecDepth 100000 in
theorem cokX5_comesTold : q_cok cX5_comesTold cdX5_comesTold := by unfold q_cok; decide +kernel
theorem dswX5_comesTold_30 : decode cX5_comesTold 30 = .ok (.lookupswitch 185 #[(98, 66), (104, 98), (114, 147), (115, 42)], 42) := by decide +kernel
set_option maxRecDepth 100000 in
set_option maxHeartbeats 4000000 in
theorem ctX5_comesTold {l : Launch} {D : va_G} {cy : Nat → Nat} {b0 : Nat} {σ : q_St} {h : q_Hp} (a0 : Nat) (x1 : Int32) {r : Int32} {h' : q_Hp} (ta0 : q_tag σ a0 = 6) (hf : fX5_comesTold σ h a0 x1 = some (r, h')) : q_M l yX5_comesTold cX5_comesTold 6 (some .boolean) 3 65 0 0 D cy b0 σ h [.ref a0, .int x1] (some (.int r)) σ h' := by
  unfold fX5_comesTold at hf
  obtain ⟨⟨k0, k1, k2⟩, hf⟩ := q_gu_o hf
  refine q_enter (by decide) (Nat.le_of_ble_eq_true rfl) ?_
  intro p e s m args below meth c C0 hr hlk _
  replace C0 : VC p { frames := 3, cells := 0, slots := 0, locals := 65 } s m args meth c D cy b0 6 0 0 RX5 cX5_comesTold := C0
  have n160 : ∀ (h : q_Hp) (x3 : Int32) (x4 : Int32) (s0 : Int32), fX5_comesTold_160 σ h a0 x1 x3 x4 s0 = some (r, h') → V p l e { frames := 3, cells := 0, slots := 0, locals := 65 } s m args below meth c (MQ below (q_Qc D cy b0 (some (.int r)) σ h') args s 0 0 (fun q => b0 ≤ q)) D cy b0 6 0 0 0 0 σ h 160 [(0, .ref a0), (3, .int x3), (4, .int x4)] [.int s0] := by
    intro h x3 x4 s0 hf
    unfold fX5_comesTold_160 at hf
    refine v_run C0 tbX5 cokX5_comesTold (pc' := 164) (lv' := [(5, .int s0), (0, .ref a0), (3, .int x3), (4, .int x4)]) (st' := [.int s0]) (h' := h) 2 rfl trivial ?_
    refine v_if_eq C0 cokX5_comesTold rfl 174 (by decide) hf (fun _ hf => ?_) (fun _ hf => ?_)
    · refine v_run C0 tbX5 cokX5_comesTold (pc' := 176) (lv' := [(5, .int s0), (0, .ref a0), (3, .int x3), (4, .int x4)]) (st' := [.int s0]) (h' := h) 1 rfl trivial ?_
      obtain ⟨g24, hf⟩ := q_gu_o hf
      cases hf
      exact v_zret C0 cokX5_comesTold hr hlk rfl g24
    · refine v_run C0 tbX5 cokX5_comesTold (pc' := 171) (lv' := [(5, .int s0), (0, .ref a0), (3, .int x3), (4, .int x4)]) (st' := [.int x4, .int x3, .ref a0]) (h' := h) 3 rfl trivial ?_
      obtain ⟨h25, e25, hf⟩ := q_bd hf
      refine v_callV C0 cokX5_comesTold rfl (rest := []) (ctX5_hire a0 x3 x4 ta0 e25) calX5_hire lkX5_179 inX5_hire dnX5_hire (ci := 5) ⟨rfl, by decide⟩ ta0 rfl rfl ⟨by decide, by decide⟩ (Nat.le_of_ble_eq_true rfl) (Nat.le_refl _) (Nat.le_refl _) ?_
      refine v_run C0 tbX5 cokX5_comesTold (pc' := 176) (lv' := [(5, .int s0), (0, .ref a0), (3, .int x3), (4, .int x4)]) (st' := [.int s0]) (h' := h25) 1 rfl trivial ?_
      obtain ⟨g26, hf⟩ := q_gu_o hf
      cases hf
      exact v_zret C0 cokX5_comesTold hr hlk rfl g26
  have n159 : ∀ (h : q_Hp) (x3 : Int32) (x4 : Int32), fX5_comesTold_159 σ h a0 x1 x3 x4 = some (r, h') → V p l e { frames := 3, cells := 0, slots := 0, locals := 65 } s m args below meth c (MQ below (q_Qc D cy b0 (some (.int r)) σ h') args s 0 0 (fun q => b0 ≤ q)) D cy b0 6 0 0 0 0 σ h 159 [(0, .ref a0), (3, .int x3), (4, .int x4)] [] := by
    intro h x3 x4 hf
    unfold fX5_comesTold_159 at hf
    refine v_run C0 tbX5 cokX5_comesTold (pc' := 160) (lv' := [(0, .ref a0), (3, .int x3), (4, .int x4)]) (st' := [.int (0 : Int32)]) (h' := h) 1 rfl trivial ?_
    refine v_pick [0, 1, 2] rfl ?_
    exact n160 h x3 x4 (0 : Int32) hf
  have n200 : ∀ (h : q_Hp) (x3 : Int32) (s0 : Int32), fX5_comesTold_200 σ h a0 x1 x3 s0 = some (r, h') → V p l e { frames := 3, cells := 0, slots := 0, locals := 65 } s m args below meth c (MQ below (q_Qc D cy b0 (some (.int r)) σ h') args s 0 0 (fun q => b0 ≤ q)) D cy b0 6 0 0 0 0 σ h 200 [(0, .ref a0), (3, .int x3)] [.int s0] := by
    intro h x3 s0 hf
    unfold fX5_comesTold_200 at hf
    refine v_run C0 tbX5 cokX5_comesTold (pc' := 204) (lv' := [(5, .int s0), (0, .ref a0), (3, .int x3)]) (st' := [.int s0]) (h' := h) 2 rfl trivial ?_
    refine v_if_eq C0 cokX5_comesTold rfl 212 (by decide) hf (fun _ hf => ?_) (fun _ hf => ?_)
    · refine v_run C0 tbX5 cokX5_comesTold (pc' := 214) (lv' := [(5, .int s0), (0, .ref a0), (3, .int x3)]) (st' := [.int s0]) (h' := h) 1 rfl trivial ?_
      obtain ⟨g30, hf⟩ := q_gu_o hf
      cases hf
      exact v_zret C0 cokX5_comesTold hr hlk rfl g30
    · refine v_run C0 tbX5 cokX5_comesTold (pc' := 209) (lv' := [(5, .int s0), (0, .ref a0), (3, .int x3)]) (st' := [.int x3, .ref a0]) (h' := h) 2 rfl trivial ?_
      obtain ⟨h31, e31, hf⟩ := q_bd hf
      refine v_callV C0 cokX5_comesTold rfl (rest := []) (ctX5_comeBack a0 x3 ta0 e31) calX5_comeBack lkX5_182 inX5_comeBack dnX5_comeBack (ci := 5) ⟨rfl, by decide⟩ ta0 rfl rfl ⟨by decide, by decide⟩ (Nat.le_of_ble_eq_true rfl) (Nat.le_refl _) (Nat.le_refl _) ?_
      refine v_run C0 tbX5 cokX5_comesTold (pc' := 214) (lv' := [(5, .int s0), (0, .ref a0), (3, .int x3)]) (st' := [.int s0]) (h' := h31) 1 rfl trivial ?_
      obtain ⟨g32, hf⟩ := q_gu_o hf
      cases hf
      exact v_zret C0 cokX5_comesTold hr hlk rfl g32
  have n199 : ∀ (h : q_Hp) (x3 : Int32), fX5_comesTold_199 σ h a0 x1 x3 = some (r, h') → V p l e { frames := 3, cells := 0, slots := 0, locals := 65 } s m args below meth c (MQ below (q_Qc D cy b0 (some (.int r)) σ h') args s 0 0 (fun q => b0 ≤ q)) D cy b0 6 0 0 0 0 σ h 199 [(0, .ref a0), (3, .int x3)] [] := by
    intro h x3 hf
    unfold fX5_comesTold_199 at hf
    refine v_run C0 tbX5 cokX5_comesTold (pc' := 200) (lv' := [(0, .ref a0), (3, .int x3)]) (st' := [.int (0 : Int32)]) (h' := h) 1 rfl trivial ?_
    refine v_pick [0, 1] rfl ?_
    exact n200 h x3 (0 : Int32) hf
  have n236 : ∀ (h : q_Hp) (x3 : Int32) (s0 : Int32), fX5_comesTold_236 σ h a0 x1 x3 s0 = some (r, h') → V p l e { frames := 3, cells := 0, slots := 0, locals := 65 } s m args below meth c (MQ below (q_Qc D cy b0 (some (.int r)) σ h') args s 0 0 (fun q => b0 ≤ q)) D cy b0 6 0 0 0 0 σ h 236 [(0, .ref a0), (3, .int x3)] [.int s0] := by
    intro h x3 s0 hf
    unfold fX5_comesTold_236 at hf
    refine v_run C0 tbX5 cokX5_comesTold (pc' := 240) (lv' := [(5, .int s0), (0, .ref a0), (3, .int x3)]) (st' := [.int s0]) (h' := h) 2 rfl trivial ?_
    refine v_if_eq C0 cokX5_comesTold rfl 248 (by decide) hf (fun _ hf => ?_) (fun _ hf => ?_)
    · refine v_run C0 tbX5 cokX5_comesTold (pc' := 250) (lv' := [(5, .int s0), (0, .ref a0), (3, .int x3)]) (st' := [.int s0]) (h' := h) 1 rfl trivial ?_
      obtain ⟨g27, hf⟩ := q_gu_o hf
      cases hf
      exact v_zret C0 cokX5_comesTold hr hlk rfl g27
    · refine v_run C0 tbX5 cokX5_comesTold (pc' := 245) (lv' := [(5, .int s0), (0, .ref a0), (3, .int x3)]) (st' := [.int x3, .ref a0]) (h' := h) 2 rfl trivial ?_
      obtain ⟨h28, e28, hf⟩ := q_bd hf
      refine v_callV C0 cokX5_comesTold rfl (rest := []) (ctX5_clean a0 x3 ta0 e28) calX5_clean lkX5_189 inX5_clean dnX5_clean (ci := 5) ⟨rfl, by decide⟩ ta0 rfl rfl ⟨by decide, by decide⟩ (Nat.le_of_ble_eq_true rfl) (Nat.le_refl _) (Nat.le_refl _) ?_
      refine v_run C0 tbX5 cokX5_comesTold (pc' := 250) (lv' := [(5, .int s0), (0, .ref a0), (3, .int x3)]) (st' := [.int s0]) (h' := h28) 1 rfl trivial ?_
      obtain ⟨g29, hf⟩ := q_gu_o hf
      cases hf
      exact v_zret C0 cokX5_comesTold hr hlk rfl g29
  have n235 : ∀ (h : q_Hp) (x3 : Int32), fX5_comesTold_235 σ h a0 x1 x3 = some (r, h') → V p l e { frames := 3, cells := 0, slots := 0, locals := 65 } s m args below meth c (MQ below (q_Qc D cy b0 (some (.int r)) σ h') args s 0 0 (fun q => b0 ≤ q)) D cy b0 6 0 0 0 0 σ h 235 [(0, .ref a0), (3, .int x3)] [] := by
    intro h x3 hf
    unfold fX5_comesTold_235 at hf
    refine v_run C0 tbX5 cokX5_comesTold (pc' := 236) (lv' := [(0, .ref a0), (3, .int x3)]) (st' := [.int (0 : Int32)]) (h' := h) 1 rfl trivial ?_
    refine v_pick [0, 1] rfl ?_
    exact n236 h x3 (0 : Int32) hf
  obtain ⟨⟨g1, g2, g3⟩, hf⟩ := q_gu_o hf
  refine v_run C0 tbX5 cokX5_comesTold (pc' := 30) (lv' := [(5, .int (1 : Int32)), (4, .int (q_int h (q_ref σ a0 28) (Int32.toNatClampNeg (((5 : Int32) * x1) + (1 : Int32))))), (3, .int (q_int h (q_ref σ a0 28) (Int32.toNatClampNeg ((5 : Int32) * x1)))), (2, .int ((5 : Int32) * x1)), (0, .ref a0), (1, .int x1)]) (st' := [.int (q_int h (q_ref σ a0 27) (Int32.toNatClampNeg x1))]) (h' := h) 22 rfl ⟨⟨ta0, q_tn k0⟩, ⟨k0, g1⟩, ⟨ta0, q_tn k0⟩, ⟨k0, g2⟩, ⟨ta0, q_tn k1⟩, ⟨k1, g3⟩, trivial⟩ ?_
  rcases q_ite hf with ⟨d9, hf⟩ | ⟨d9, hf⟩
  · refine v_lkI C0 dswX5_comesTold_30 d9 96 (by decide +kernel) (by decide +kernel) ?_
    obtain ⟨⟨g4, g5, g6⟩, hf⟩ := q_gu_o hf
    refine v_run C0 tbX5 cokX5_comesTold (pc' := 124) (lv' := [(5, .int (1 : Int32)), (4, .int (q_int h (q_ref σ a0 28) (Int32.toNatClampNeg (((5 : Int32) * x1) + (1 : Int32))))), (3, .int (q_int h (q_ref σ a0 28) (Int32.toNatClampNeg ((5 : Int32) * x1)))), (2, .int ((5 : Int32) * x1)), (0, .ref a0), (1, .int x1)]) (st' := [.int (q_int h (q_ref σ a0 28) (Int32.toNatClampNeg (((5 : Int32) * x1) + (4 : Int32)))), .int (q_int h (q_ref σ a0 28) (Int32.toNatClampNeg (((5 : Int32) * x1) + (3 : Int32)))), .int (q_int h (q_ref σ a0 28) (Int32.toNatClampNeg (((5 : Int32) * x1) + (2 : Int32)))), .int (q_int h (q_ref σ a0 28) (Int32.toNatClampNeg (((5 : Int32) * x1) + (1 : Int32)))), .int (q_int h (q_ref σ a0 28) (Int32.toNatClampNeg ((5 : Int32) * x1))), .ref a0]) (h' := h) 21 rfl ⟨⟨ta0, q_tn k0⟩, ⟨k0, g4⟩, ⟨ta0, q_tn k0⟩, ⟨k0, g5⟩, ⟨ta0, q_tn k0⟩, ⟨k0, g6⟩, trivial⟩ ?_
    obtain ⟨r7, h7, e7, hf⟩ := q_bd2 hf
    refine v_callV C0 cokX5_comesTold rfl (rest := []) (ctX5_bookingComes a0 (q_int h (q_ref σ a0 28) (Int32.toNatClampNeg ((5 : Int32) * x1))) (q_int h (q_ref σ a0 28) (Int32.toNatClampNeg (((5 : Int32) * x1) + (1 : Int32)))) (q_int h (q_ref σ a0 28) (Int32.toNatClampNeg (((5 : Int32) * x1) + (2 : Int32)))) (q_int h (q_ref σ a0 28) (Int32.toNatClampNeg (((5 : Int32) * x1) + (3 : Int32)))) (q_int h (q_ref σ a0 28) (Int32.toNatClampNeg (((5 : Int32) * x1) + (4 : Int32)))) ta0 e7) calX5_bookingComes lkX5_165 inX5_bookingComes dnX5_bookingComes (ci := 5) ⟨rfl, by decide⟩ ta0 rfl rfl ⟨by decide, by decide⟩ (Nat.le_of_ble_eq_true rfl) (Nat.le_refl _) (Nat.le_refl _) ?_
    obtain ⟨g8, hf⟩ := q_gu_o hf
    cases hf
    exact v_zret C0 cokX5_comesTold hr hlk rfl g8
  · rcases q_ite hf with ⟨d13, hf⟩ | ⟨d13, hf⟩
    · refine v_lkI C0 dswX5_comesTold_30 d13 128 (by decide +kernel) (by decide +kernel) ?_
      refine v_run C0 tbX5 cokX5_comesTold (pc' := 130) (lv' := [(5, .int (1 : Int32)), (4, .int (q_int h (q_ref σ a0 28) (Int32.toNatClampNeg (((5 : Int32) * x1) + (1 : Int32))))), (3, .int (q_int h (q_ref σ a0 28) (Int32.toNatClampNeg ((5 : Int32) * x1)))), (2, .int ((5 : Int32) * x1)), (0, .ref a0), (1, .int x1)]) (st' := [.int (q_int h (q_ref σ a0 28) (Int32.toNatClampNeg ((5 : Int32) * x1))), .ref a0]) (h' := h) 2 rfl trivial ?_
      obtain ⟨r10, e10, hf⟩ := q_bd hf
      refine v_callV C0 cokX5_comesTold rfl (rest := []) (ctX5_isSuit a0 (q_int h (q_ref σ a0 28) (Int32.toNatClampNeg ((5 : Int32) * x1))) ta0 e10) calX5_isSuit lkX5_169 inX5_isSuit dnX5_isSuit (ci := 5) ⟨rfl, by decide⟩ ta0 rfl rfl ⟨by decide, by decide⟩ (Nat.le_of_ble_eq_true rfl) (Nat.le_refl _) (Nat.le_refl _) ?_
      refine v_if_eq C0 cokX5_comesTold rfl 159 (by decide) hf (fun _ hf => ?_) (fun _ hf => ?_)
      · refine v_pick [4, 2, 1] rfl ?_
        exact n159 h (q_int h (q_ref σ a0 28) (Int32.toNatClampNeg ((5 : Int32) * x1))) (q_int h (q_ref σ a0 28) (Int32.toNatClampNeg (((5 : Int32) * x1) + (1 : Int32)))) hf
      · refine v_run C0 tbX5 cokX5_comesTold (pc' := 139) (lv' := [(5, .int (1 : Int32)), (4, .int (q_int h (q_ref σ a0 28) (Int32.toNatClampNeg (((5 : Int32) * x1) + (1 : Int32))))), (3, .int (q_int h (q_ref σ a0 28) (Int32.toNatClampNeg ((5 : Int32) * x1)))), (2, .int ((5 : Int32) * x1)), (0, .ref a0), (1, .int x1)]) (st' := [.int (q_int h (q_ref σ a0 28) (Int32.toNatClampNeg (((5 : Int32) * x1) + (1 : Int32)))), .ref a0]) (h' := h) 2 rfl trivial ?_
        obtain ⟨r11, e11, hf⟩ := q_bd hf
        refine v_callV C0 cokX5_comesTold rfl (rest := []) (ctX5_isBooking a0 (q_int h (q_ref σ a0 28) (Int32.toNatClampNeg (((5 : Int32) * x1) + (1 : Int32)))) ta0 e11) calX5_isBooking lkX5_173 inX5_isBooking dnX5_isBooking (ci := 5) ⟨rfl, by decide⟩ ta0 rfl rfl ⟨by decide, by decide⟩ (Nat.le_of_ble_eq_true rfl) (Nat.le_refl _) (Nat.le_refl _) ?_
        refine v_if_eq C0 cokX5_comesTold rfl 159 (by decide) hf (fun _ hf => ?_) (fun _ hf => ?_)
        · refine v_pick [4, 2, 1] rfl ?_
          exact n159 h (q_int h (q_ref σ a0 28) (Int32.toNatClampNeg ((5 : Int32) * x1))) (q_int h (q_ref σ a0 28) (Int32.toNatClampNeg (((5 : Int32) * x1) + (1 : Int32)))) hf
        · refine v_run C0 tbX5 cokX5_comesTold (pc' := 149) (lv' := [(5, .int (1 : Int32)), (4, .int (q_int h (q_ref σ a0 28) (Int32.toNatClampNeg (((5 : Int32) * x1) + (1 : Int32))))), (3, .int (q_int h (q_ref σ a0 28) (Int32.toNatClampNeg ((5 : Int32) * x1)))), (2, .int ((5 : Int32) * x1)), (0, .ref a0), (1, .int x1)]) (st' := [.int (q_int h (q_ref σ a0 28) (Int32.toNatClampNeg (((5 : Int32) * x1) + (1 : Int32)))), .int (q_int h (q_ref σ a0 28) (Int32.toNatClampNeg ((5 : Int32) * x1))), .ref a0]) (h' := h) 3 rfl trivial ?_
          obtain ⟨r12, e12, hf⟩ := q_bd hf
          refine v_callV C0 cokX5_comesTold rfl (rest := []) (ctX5_canHire a0 (q_int h (q_ref σ a0 28) (Int32.toNatClampNeg ((5 : Int32) * x1))) (q_int h (q_ref σ a0 28) (Int32.toNatClampNeg (((5 : Int32) * x1) + (1 : Int32)))) ta0 e12) calX5_canHire lkX5_176 inX5_canHire dnX5_canHire (ci := 5) ⟨rfl, by decide⟩ ta0 rfl rfl ⟨by decide, by decide⟩ (Nat.le_of_ble_eq_true rfl) (Nat.le_refl _) (Nat.le_refl _) ?_
          refine v_if_eq C0 cokX5_comesTold rfl 159 (by decide) hf (fun _ hf => ?_) (fun _ hf => ?_)
          · refine v_pick [4, 2, 1] rfl ?_
            exact n159 h (q_int h (q_ref σ a0 28) (Int32.toNatClampNeg ((5 : Int32) * x1))) (q_int h (q_ref σ a0 28) (Int32.toNatClampNeg (((5 : Int32) * x1) + (1 : Int32)))) hf
          · refine v_run C0 tbX5 cokX5_comesTold (pc' := 160) (lv' := [(5, .int (1 : Int32)), (4, .int (q_int h (q_ref σ a0 28) (Int32.toNatClampNeg (((5 : Int32) * x1) + (1 : Int32))))), (3, .int (q_int h (q_ref σ a0 28) (Int32.toNatClampNeg ((5 : Int32) * x1)))), (2, .int ((5 : Int32) * x1)), (0, .ref a0), (1, .int x1)]) (st' := [.int (1 : Int32)]) (h' := h) 2 rfl trivial ?_
            refine v_pick [4, 2, 1] rfl ?_
            exact n160 h (q_int h (q_ref σ a0 28) (Int32.toNatClampNeg ((5 : Int32) * x1))) (q_int h (q_ref σ a0 28) (Int32.toNatClampNeg (((5 : Int32) * x1) + (1 : Int32)))) (1 : Int32) hf
    · rcases q_ite hf with ⟨d16, hf⟩ | ⟨d16, hf⟩
      · refine v_lkI C0 dswX5_comesTold_30 d16 177 (by decide +kernel) (by decide +kernel) ?_
        refine v_run C0 tbX5 cokX5_comesTold (pc' := 179) (lv' := [(5, .int (1 : Int32)), (4, .int (q_int h (q_ref σ a0 28) (Int32.toNatClampNeg (((5 : Int32) * x1) + (1 : Int32))))), (3, .int (q_int h (q_ref σ a0 28) (Int32.toNatClampNeg ((5 : Int32) * x1)))), (2, .int ((5 : Int32) * x1)), (0, .ref a0), (1, .int x1)]) (st' := [.int (q_int h (q_ref σ a0 28) (Int32.toNatClampNeg ((5 : Int32) * x1))), .ref a0]) (h' := h) 2 rfl trivial ?_
        obtain ⟨r14, e14, hf⟩ := q_bd hf
        refine v_callV C0 cokX5_comesTold rfl (rest := []) (ctX5_isSuit a0 (q_int h (q_ref σ a0 28) (Int32.toNatClampNeg ((5 : Int32) * x1))) ta0 e14) calX5_isSuit lkX5_169 inX5_isSuit dnX5_isSuit (ci := 5) ⟨rfl, by decide⟩ ta0 rfl rfl ⟨by decide, by decide⟩ (Nat.le_of_ble_eq_true rfl) (Nat.le_refl _) (Nat.le_refl _) ?_
        refine v_if_eq C0 cokX5_comesTold rfl 199 (by decide) hf (fun _ hf => ?_) (fun _ hf => ?_)
        · refine v_pick [4, 2] rfl ?_
          exact n199 h (q_int h (q_ref σ a0 28) (Int32.toNatClampNeg ((5 : Int32) * x1))) hf
        · obtain ⟨g15, hf⟩ := q_gu_o hf
          refine v_run C0 tbX5 cokX5_comesTold (pc' := 192) (lv' := [(5, .int (1 : Int32)), (4, .int (q_int h (q_ref σ a0 28) (Int32.toNatClampNeg (((5 : Int32) * x1) + (1 : Int32))))), (3, .int (q_int h (q_ref σ a0 28) (Int32.toNatClampNeg ((5 : Int32) * x1)))), (2, .int ((5 : Int32) * x1)), (0, .ref a0), (1, .int x1)]) (st' := [.int (1 : Int32), .int (q_int h (q_ref σ a0 5) (Int32.toNatClampNeg (q_int h (q_ref σ a0 28) (Int32.toNatClampNeg ((5 : Int32) * x1)))))]) (h' := h) 5 rfl ⟨⟨ta0, q_tn k2⟩, ⟨k2, g15⟩, trivial⟩ ?_
          refine v_icmp_ne C0 cokX5_comesTold rfl 199 (by decide) hf (fun _ hf => ?_) (fun _ hf => ?_)
          · refine v_run C0 tbX5 cokX5_comesTold (pc' := 200) (lv' := [(5, .int (1 : Int32)), (4, .int (q_int h (q_ref σ a0 28) (Int32.toNatClampNeg (((5 : Int32) * x1) + (1 : Int32))))), (3, .int (q_int h (q_ref σ a0 28) (Int32.toNatClampNeg ((5 : Int32) * x1)))), (2, .int ((5 : Int32) * x1)), (0, .ref a0), (1, .int x1)]) (st' := [.int (1 : Int32)]) (h' := h) 2 rfl trivial ?_
            refine v_pick [4, 2] rfl ?_
            exact n200 h (q_int h (q_ref σ a0 28) (Int32.toNatClampNeg ((5 : Int32) * x1))) (1 : Int32) hf
          · refine v_pick [4, 2] rfl ?_
            exact n199 h (q_int h (q_ref σ a0 28) (Int32.toNatClampNeg ((5 : Int32) * x1))) hf
      · rcases q_ite hf with ⟨d21, hf⟩ | ⟨d21, hf⟩
        · refine v_lkI C0 dswX5_comesTold_30 d21 72 (by decide +kernel) (by decide +kernel) ?_
          obtain ⟨⟨g17, g18⟩, hf⟩ := q_gu_o hf
          refine v_run C0 tbX5 cokX5_comesTold (pc' := 92) (lv' := [(5, .int (1 : Int32)), (4, .int (q_int h (q_ref σ a0 28) (Int32.toNatClampNeg (((5 : Int32) * x1) + (1 : Int32))))), (3, .int (q_int h (q_ref σ a0 28) (Int32.toNatClampNeg ((5 : Int32) * x1)))), (2, .int ((5 : Int32) * x1)), (0, .ref a0), (1, .int x1)]) (st' := [.int (q_int h (q_ref σ a0 28) (Int32.toNatClampNeg (((5 : Int32) * x1) + (3 : Int32)))), .int (q_int h (q_ref σ a0 28) (Int32.toNatClampNeg (((5 : Int32) * x1) + (2 : Int32)))), .int (q_int h (q_ref σ a0 28) (Int32.toNatClampNeg (((5 : Int32) * x1) + (1 : Int32)))), .int (q_int h (q_ref σ a0 28) (Int32.toNatClampNeg ((5 : Int32) * x1))), .ref a0]) (h' := h) 15 rfl ⟨⟨ta0, q_tn k0⟩, ⟨k0, g17⟩, ⟨ta0, q_tn k0⟩, ⟨k0, g18⟩, trivial⟩ ?_
          obtain ⟨r19, h19, e19, hf⟩ := q_bd2 hf
          refine v_callV C0 cokX5_comesTold rfl (rest := []) (ctX5_suitComes a0 (q_int h (q_ref σ a0 28) (Int32.toNatClampNeg ((5 : Int32) * x1))) (q_int h (q_ref σ a0 28) (Int32.toNatClampNeg (((5 : Int32) * x1) + (1 : Int32)))) (q_int h (q_ref σ a0 28) (Int32.toNatClampNeg (((5 : Int32) * x1) + (2 : Int32)))) (q_int h (q_ref σ a0 28) (Int32.toNatClampNeg (((5 : Int32) * x1) + (3 : Int32)))) ta0 e19) calX5_suitComes lkX5_161 inX5_suitComes dnX5_suitComes (ci := 5) ⟨rfl, by decide⟩ ta0 rfl rfl ⟨by decide, by decide⟩ (Nat.le_of_ble_eq_true rfl) (Nat.le_refl _) (Nat.le_refl _) ?_
          obtain ⟨g20, hf⟩ := q_gu_o hf
          cases hf
          exact v_zret C0 cokX5_comesTold hr hlk rfl g20
        · refine v_lkO C0 dswX5_comesTold_30 215 (by decide +kernel) (by decide +kernel) (fun k hk hx => ?_) ?_
          · simp only [List.mem_cons, List.not_mem_nil, or_false] at hk
            rcases hk with rfl | rfl | rfl | rfl
            · exact d9 (Int32.toInt_inj.mp hx)
            · exact d13 (Int32.toInt_inj.mp hx)
            · exact d16 (Int32.toInt_inj.mp hx)
            · exact d21 (Int32.toInt_inj.mp hx)
          · refine v_run C0 tbX5 cokX5_comesTold (pc' := 217) (lv' := [(5, .int (1 : Int32)), (4, .int (q_int h (q_ref σ a0 28) (Int32.toNatClampNeg (((5 : Int32) * x1) + (1 : Int32))))), (3, .int (q_int h (q_ref σ a0 28) (Int32.toNatClampNeg ((5 : Int32) * x1)))), (2, .int ((5 : Int32) * x1)), (0, .ref a0), (1, .int x1)]) (st' := [.int (q_int h (q_ref σ a0 28) (Int32.toNatClampNeg ((5 : Int32) * x1))), .ref a0]) (h' := h) 2 rfl trivial ?_
            obtain ⟨r22, e22, hf⟩ := q_bd hf
            refine v_callV C0 cokX5_comesTold rfl (rest := []) (ctX5_isSuit a0 (q_int h (q_ref σ a0 28) (Int32.toNatClampNeg ((5 : Int32) * x1))) ta0 e22) calX5_isSuit lkX5_169 inX5_isSuit dnX5_isSuit (ci := 5) ⟨rfl, by decide⟩ ta0 rfl rfl ⟨by decide, by decide⟩ (Nat.le_of_ble_eq_true rfl) (Nat.le_refl _) (Nat.le_refl _) ?_
            refine v_if_eq C0 cokX5_comesTold rfl 235 (by decide) hf (fun _ hf => ?_) (fun _ hf => ?_)
            · refine v_pick [4, 2] rfl ?_
              exact n235 h (q_int h (q_ref σ a0 28) (Int32.toNatClampNeg ((5 : Int32) * x1))) hf
            · refine v_run C0 tbX5 cokX5_comesTold (pc' := 225) (lv' := [(5, .int (1 : Int32)), (4, .int (q_int h (q_ref σ a0 28) (Int32.toNatClampNeg (((5 : Int32) * x1) + (1 : Int32))))), (3, .int (q_int h (q_ref σ a0 28) (Int32.toNatClampNeg ((5 : Int32) * x1)))), (2, .int ((5 : Int32) * x1)), (0, .ref a0), (1, .int x1)]) (st' := [.int (q_int h (q_ref σ a0 28) (Int32.toNatClampNeg ((5 : Int32) * x1))), .ref a0]) (h' := h) 2 rfl trivial ?_
              obtain ⟨r23, e23, hf⟩ := q_bd hf
              refine v_callV C0 cokX5_comesTold rfl (rest := []) (ctX5_canClean a0 (q_int h (q_ref σ a0 28) (Int32.toNatClampNeg ((5 : Int32) * x1))) ta0 e23) calX5_canClean lkX5_186 inX5_canClean dnX5_canClean (ci := 5) ⟨rfl, by decide⟩ ta0 rfl rfl ⟨by decide, by decide⟩ (Nat.le_of_ble_eq_true rfl) (Nat.le_refl _) (Nat.le_refl _) ?_
              refine v_if_eq C0 cokX5_comesTold rfl 235 (by decide) hf (fun _ hf => ?_) (fun _ hf => ?_)
              · refine v_pick [4, 2] rfl ?_
                exact n235 h (q_int h (q_ref σ a0 28) (Int32.toNatClampNeg ((5 : Int32) * x1))) hf
              · refine v_run C0 tbX5 cokX5_comesTold (pc' := 236) (lv' := [(5, .int (1 : Int32)), (4, .int (q_int h (q_ref σ a0 28) (Int32.toNatClampNeg (((5 : Int32) * x1) + (1 : Int32))))), (3, .int (q_int h (q_ref σ a0 28) (Int32.toNatClampNeg ((5 : Int32) * x1)))), (2, .int ((5 : Int32) * x1)), (0, .ref a0), (1, .int x1)]) (st' := [.int (1 : Int32)]) (h' := h) 2 rfl trivial ?_
                refine v_pick [4, 2] rfl ?_
                exact n236 h (q_int h (q_ref σ a0 28) (Int32.toNatClampNeg ((5 : Int32) * x1))) (1 : Int32) hf
-- BackByNoonOnMondayModel.wrongRow(I)I
noncomputable def fX5_wrongRow (σ : q_St) (h : q_Hp) (a0 : Nat) (x1 : Int32) : Option Int32 := q_gu ((q_tag σ (q_ref σ a0 15) = 7)) (((fX5_in σ h (Int32.toInt64 x1) (0 : Int64) (7 : Int64)).bind fun r1 => (if r1 = 0 then some (-1 : Int32) else q_gu ((vp_in x1 (q_len σ (q_ref σ a0 15)))) ((if (q_int h (q_ref σ a0 15) (Int32.toNatClampNeg x1)) = 0 then some (-11 : Int32) else (if (q_int h (q_ref σ a0 15) (Int32.toNatClampNeg x1)) = (2 : Int32) then some (0 : Int32) else some (-12 : Int32)))))))
def cdX5_wrongRow : q_Cd := [(0, .iload_n 1), (1, .i2l), (2, .lconst 0), (3, .ldc2_w 229), (6, .invokestatic 96), (9, .ifCond .ne 7), (12, .iconst (-1)), (13, .goto 33), (16, .aload_n 0), (17, .getfield 43), (20, .iload_n 1), (21, .iaload), (22, .ifCond .ne 8), (25, .bipush (-11)), (27, .goto 19), (30, .aload_n 0), (31, .getfield 43), (34, .iload_n 1), (35, .iaload), (36, .iconst 2), (37, .if_icmp .eq 8), (40, .bipush (-12)), (42, .goto 4), (45, .iconst 0), (46, .ireturn)]
set_option maxRecDepth 100000 in
theorem cokX5_wrongRow : q_cok cX5_wrongRow cdX5_wrongRow := by unfold q_cok; decide +kernel
set_option maxRecDepth 100000 in
set_option maxHeartbeats 4000000 in
theorem ctX5_wrongRow {l : Launch} {D : va_G} {cy : Nat → Nat} {b0 : Nat} {σ : q_St} {h : q_Hp} (a0 : Nat) (x1 : Int32) {r : Int32} (ta0 : q_tag σ a0 = 6) (hf : fX5_wrongRow σ h a0 x1 = some r) : q_M l yX5_wrongRow cX5_wrongRow 2 (some .int) 1 25 0 0 D cy b0 σ h [.ref a0, .int x1] (some (.int r)) σ h := by
  unfold fX5_wrongRow at hf
  obtain ⟨k0, hf⟩ := q_gu_o hf
  refine q_enter (by decide) (Nat.le_of_ble_eq_true rfl) ?_
  intro p e s m args below meth c C0 hr hlk _
  replace C0 : VC p { frames := 1, cells := 0, slots := 0, locals := 25 } s m args meth c D cy b0 2 0 0 RX5 cX5_wrongRow := C0
  refine v_run C0 tbX5 cokX5_wrongRow (pc' := 6) (lv' := [(0, .ref a0), (1, .int x1)]) (st' := [.long (7 : Int64), .long (0 : Int64), .long (Int32.toInt64 x1)]) (h' := h) 4 rfl trivial ?_
  obtain ⟨r1, e1, hf⟩ := q_bd hf
  refine v_callS C0 cokX5_wrongRow rfl (rest := []) (ctX5_in (Int32.toInt64 x1) (0 : Int64) (7 : Int64) e1) calX5_in lkX5_96 inX5_in dnX5_in rfl rfl ⟨by decide, by decide⟩ (Nat.le_of_ble_eq_true rfl) (Nat.le_refl _) (Nat.le_refl _) ?_
  refine v_if_ne C0 cokX5_wrongRow rfl 16 (by decide) hf (fun _ hf => ?_) (fun _ hf => ?_)
  · refine v_run C0 tbX5 cokX5_wrongRow (pc' := 46) (lv' := [(0, .ref a0), (1, .int x1)]) (st' := [.int (-1 : Int32)]) (h' := h) 2 rfl trivial ?_
    cases hf
    exact v_iret C0 cokX5_wrongRow hr hlk rfl
  · obtain ⟨g2, hf⟩ := q_gu_o hf
    refine v_run C0 tbX5 cokX5_wrongRow (pc' := 22) (lv' := [(0, .ref a0), (1, .int x1)]) (st' := [.int (q_int h (q_ref σ a0 15) (Int32.toNatClampNeg x1))]) (h' := h) 4 rfl ⟨⟨ta0, q_tn k0⟩, ⟨k0, g2⟩, trivial⟩ ?_
    refine v_if_ne C0 cokX5_wrongRow rfl 30 (by decide) hf (fun _ hf => ?_) (fun _ hf => ?_)
    · refine v_run C0 tbX5 cokX5_wrongRow (pc' := 46) (lv' := [(0, .ref a0), (1, .int x1)]) (st' := [.int (-11 : Int32)]) (h' := h) 2 rfl trivial ?_
      cases hf
      exact v_iret C0 cokX5_wrongRow hr hlk rfl
    · refine v_run C0 tbX5 cokX5_wrongRow (pc' := 37) (lv' := [(0, .ref a0), (1, .int x1)]) (st' := [.int (2 : Int32), .int (q_int h (q_ref σ a0 15) (Int32.toNatClampNeg x1))]) (h' := h) 5 rfl ⟨⟨ta0, q_tn k0⟩, ⟨k0, g2⟩, trivial⟩ ?_
      refine v_icmp_eq C0 cokX5_wrongRow rfl 45 (by decide) hf (fun _ hf => ?_) (fun _ hf => ?_)
      · refine v_run C0 tbX5 cokX5_wrongRow (pc' := 46) (lv' := [(0, .ref a0), (1, .int x1)]) (st' := [.int (0 : Int32)]) (h' := h) 1 rfl trivial ?_
        cases hf
        exact v_iret C0 cokX5_wrongRow hr hlk rfl
      · refine v_run C0 tbX5 cokX5_wrongRow (pc' := 46) (lv' := [(0, .ref a0), (1, .int x1)]) (st' := [.int (-12 : Int32)]) (h' := h) 2 rfl trivial ?_
        cases hf
        exact v_iret C0 cokX5_wrongRow hr hlk rfl
-- BackByNoonOnMondayModel.carry(I)I
noncomputable def fX5_carry_17 (σ : q_St) (h : q_Hp) (a0 : Nat) (x1 : Int32) : Option (Int32 × q_Hp) := q_gu ((vp_in ((q_int (q_si h a0 32 ((q_int h a0 32) + (1 : Int32))) a0 32) - (1 : Int32)) (q_len σ (q_ref σ a0 34)))) (some ((q_int (q_si h a0 32 ((q_int h a0 32) + (1 : Int32))) (q_ref σ a0 34) (Int32.toNatClampNeg ((q_int (q_si h a0 32 ((q_int h a0 32) + (1 : Int32))) a0 32) - (1 : Int32)))), (q_si h a0 32 ((q_int h a0 32) + (1 : Int32)))))
noncomputable def fX5_carry (σ : q_St) (h : q_Hp) (a0 : Nat) (x1 : Int32) : Option (Int32 × q_Hp) := q_gu ((q_tag σ (q_ref σ a0 34) = 7)) ((if (q_int h a0 33) = 0 then fX5_carry_17 σ h a0 x1 else q_gu ((vp_in (q_int h a0 32) (q_len σ (q_ref σ a0 34)))) (fX5_carry_17 σ (q_si h (q_ref σ a0 34) (Int32.toNatClampNeg (q_int h a0 32)) x1) a0 x1)))
def cdX5_carry : q_Cd := [(0, .aload_n 0), (1, .getfield 207), (4, .ifCond .eq 13), (7, .aload_n 0), (8, .getfield 210), (11, .aload_n 0), (12, .getfield 213), (15, .iload_n 1), (16, .iastore), (17, .aload_n 0), (18, .dup), (19, .getfield 213), (22, .iconst 1), (23, .iadd), (24, .putfield 213), (27, .aload_n 0), (28, .getfield 210), (31, .aload_n 0), (32, .getfield 213), (35, .iconst 1), (36, .isub), (37, .iaload), (38, .ireturn)]
set_option maxRecDepth 100000 in
theorem cokX5_carry : q_cok cX5_carry cdX5_carry := by unfold q_cok; decide +kernel
set_option maxRecDepth 100000 in
set_option maxHeartbeats 4000000 in
theorem ctX5_carry {l : Launch} {D : va_G} {cy : Nat → Nat} {b0 : Nat} {σ : q_St} {h : q_Hp} (a0 : Nat) (x1 : Int32) {r : Int32} {h' : q_Hp} (ta0 : q_tag σ a0 = 6) (hf : fX5_carry σ h a0 x1 = some (r, h')) : q_M l yX5_carry cX5_carry 2 (some .int) 0 0 0 0 D cy b0 σ h [.ref a0, .int x1] (some (.int r)) σ h' := by
  unfold fX5_carry at hf
  obtain ⟨k0, hf⟩ := q_gu_o hf
  refine q_enter (by decide) (Nat.le_of_ble_eq_true rfl) ?_
  intro p e s m args below meth c C0 hr hlk _
  replace C0 : VC p { frames := 0, cells := 0, slots := 0, locals := 0 } s m args meth c D cy b0 2 0 0 RX5 cX5_carry := C0
  have n17 : ∀ (h : q_Hp), fX5_carry_17 σ h a0 x1 = some (r, h') → V p l e { frames := 0, cells := 0, slots := 0, locals := 0 } s m args below meth c (MQ below (q_Qc D cy b0 (some (.int r)) σ h') args s 0 0 (fun q => b0 ≤ q)) D cy b0 2 0 0 0 0 σ h 17 [(0, .ref a0)] [] := by
    intro h hf
    unfold fX5_carry_17 at hf
    obtain ⟨g2, hf⟩ := q_gu_o hf
    refine v_run C0 tbX5 cokX5_carry (pc' := 38) (lv' := [(0, .ref a0)]) (st' := [.int (q_int (q_si h a0 32 ((q_int h a0 32) + (1 : Int32))) (q_ref σ a0 34) (Int32.toNatClampNeg ((q_int (q_si h a0 32 ((q_int h a0 32) + (1 : Int32))) a0 32) - (1 : Int32))))]) (h' := (q_si h a0 32 ((q_int h a0 32) + (1 : Int32)))) 13 rfl ⟨ta0, ta0, ⟨ta0, q_tn k0⟩, ta0, ⟨k0, g2⟩, trivial⟩ ?_
    cases hf
    exact v_iret C0 cokX5_carry hr hlk rfl
  refine v_run C0 tbX5 cokX5_carry (pc' := 4) (lv' := [(0, .ref a0), (1, .int x1)]) (st' := [.int (q_int h a0 33)]) (h' := h) 2 rfl ⟨ta0, trivial⟩ ?_
  refine v_if_eq C0 cokX5_carry rfl 17 (by decide) hf (fun _ hf => ?_) (fun _ hf => ?_)
  · refine v_pick [0] rfl ?_
    exact n17 h hf
  · obtain ⟨g1, hf⟩ := q_gu_o hf
    refine v_run C0 tbX5 cokX5_carry (pc' := 17) (lv' := [(0, .ref a0), (1, .int x1)]) (st' := []) (h' := (q_si h (q_ref σ a0 34) (Int32.toNatClampNeg (q_int h a0 32)) x1)) 6 rfl ⟨⟨ta0, q_tn k0⟩, ta0, ⟨k0, g1⟩, trivial⟩ ?_
    refine v_pick [0] rfl ?_
    exact n17 (q_si h (q_ref σ a0 34) (Int32.toNatClampNeg (q_int h a0 32)) x1) hf
-- BackByNoonOnMondayModel.suit(II)I
noncomputable def fX5_suit (σ : q_St) (h : q_Hp) (a0 : Nat) (x1 : Int32) (x2 : Int32) : Option (Int32 × q_Hp) := q_gu ((q_tag σ (q_ref σ a0 1) = 7) ∧ (q_tag σ (q_ref σ a0 2) = 7) ∧ (q_tag σ (q_ref σ a0 3) = 7) ∧ (q_tag σ (q_ref σ a0 4) = 7) ∧ (q_tag σ (q_ref σ a0 5) = 7)) (((fX5_isSuit σ (q_si h a0 21 (0 : Int32)) a0 x1).bind fun r1 => (if r1 = 0 then some ((-1 : Int32), (q_si h a0 21 (0 : Int32))) else (if x2 = (0 : Int32) then q_gu ((vp_in x1 (q_len σ (q_ref σ a0 1)))) (some ((q_int (q_si h a0 21 (0 : Int32)) (q_ref σ a0 1) (Int32.toNatClampNeg x1)), (q_si h a0 21 (0 : Int32)))) else (if x2 = (1 : Int32) then q_gu ((vp_in x1 (q_len σ (q_ref σ a0 2)))) (some ((q_int (q_si h a0 21 (0 : Int32)) (q_ref σ a0 2) (Int32.toNatClampNeg x1)), (q_si h a0 21 (0 : Int32)))) else (if x2 = (2 : Int32) then q_gu ((vp_in x1 (q_len σ (q_ref σ a0 3)))) (some ((q_int (q_si h a0 21 (0 : Int32)) (q_ref σ a0 3) (Int32.toNatClampNeg x1)), (q_si h a0 21 (0 : Int32)))) else (if x2 = (3 : Int32) then q_gu ((vp_in x1 (q_len σ (q_ref σ a0 4)))) (some ((q_int (q_si h a0 21 (0 : Int32)) (q_ref σ a0 4) (Int32.toNatClampNeg x1)), (q_si h a0 21 (0 : Int32)))) else (if x2 = (4 : Int32) then q_gu ((vp_in x1 (q_len σ (q_ref σ a0 5)))) (some ((q_int (q_si h a0 21 (0 : Int32)) (q_ref σ a0 5) (Int32.toNatClampNeg x1)), (q_si h a0 21 (0 : Int32)))) else (if x2 = (5 : Int32) then ((fX5_priceOf σ (q_si h a0 21 (0 : Int32)) a0 x1).bind fun r12 => some (r12, (q_si h a0 21 (0 : Int32)))) else (if x2 = (6 : Int32) then ((fX5_givesOf σ (q_si h a0 21 (0 : Int32)) a0 x1).bind fun r14 => some (r14, (q_si h a0 21 (0 : Int32)))) else (if x2 = (7 : Int32) then ((fX5_cleansOf σ (q_si h a0 21 (0 : Int32)) a0 x1).bind fun r16 => some (r16, (q_si h a0 21 (0 : Int32)))) else (if x2 = (8 : Int32) then ((fX5_lastsOf σ (q_si h a0 21 (0 : Int32)) a0 x1).bind fun r18 => some (r18, (q_si h a0 21 (0 : Int32)))) else some ((-1 : Int32), (q_si h a0 21 (0 : Int32)))))))))))))))
def cdX5_suit : q_Cd := [(0, .aload_n 0), (1, .iconst 0), (2, .putfield 89), (5, .aload_n 0), (6, .iload_n 1), (7, .invokevirtual 169), (10, .ifCond .ne 5), (13, .iconst (-1)), (14, .ireturn), (15, .iload_n 2), (68, .aload_n 0), (69, .getfield 7), (72, .iload_n 1), (73, .iaload), (74, .ireturn), (75, .aload_n 0), (76, .getfield 13), (79, .iload_n 1), (80, .iaload), (81, .ireturn), (82, .aload_n 0), (83, .getfield 16), (86, .iload_n 1), (87, .iaload), (88, .ireturn), (89, .aload_n 0), (90, .getfield 19), (93, .iload_n 1), (94, .iaload), (95, .ireturn), (96, .aload_n 0), (97, .getfield 22), (100, .iload_n 1), (101, .iaload), (102, .ireturn), (103, .aload_n 0), (104, .iload_n 1), (105, .invokevirtual 121), (108, .ireturn), (109, .aload_n 0), (110, .iload_n 1), (111, .invokevirtual 110), (114, .ireturn), (115, .aload_n 0), (116, .iload_n 1), (117, .invokevirtual 130), (120, .ireturn), (121, .aload_n 0), (122, .iload_n 1), (123, .invokevirtual 226), (126, .ireturn), (127, .iconst (-1)), (128, .ireturn)]
set_option maxRecDepth 100000 in
theorem cokX5_suit : q_cok cX5_suit cdX5_suit := by unfold q_cok; decide +kernel
theorem dswX5_suit_16 : decode cX5_suit 16 = .ok (.tableswitch 111 0 8 #[52, 59, 66, 73, 80, 87, 93, 99, 105], 52) := by decide +kernel
set_option maxRecDepth 100000 in
set_option maxHeartbeats 4000000 in
theorem ctX5_suit {l : Launch} {D : va_G} {cy : Nat → Nat} {b0 : Nat} {σ : q_St} {h : q_Hp} (a0 : Nat) (x1 : Int32) (x2 : Int32) {r : Int32} {h' : q_Hp} (ta0 : q_tag σ a0 = 6) (hf : fX5_suit σ h a0 x1 x2 = some (r, h')) : q_M l yX5_suit cX5_suit 3 (some .int) 2 46 0 0 D cy b0 σ h [.ref a0, .int x1, .int x2] (some (.int r)) σ h' := by
  unfold fX5_suit at hf
  obtain ⟨⟨k0, k1, k2, k3, k4⟩, hf⟩ := q_gu_o hf
  refine q_enter (by decide) (Nat.le_of_ble_eq_true rfl) ?_
  intro p e s m args below meth c C0 hr hlk _
  replace C0 : VC p { frames := 2, cells := 0, slots := 0, locals := 46 } s m args meth c D cy b0 3 0 0 RX5 cX5_suit := C0
  refine v_run C0 tbX5 cokX5_suit (pc' := 7) (lv' := [(0, .ref a0), (1, .int x1), (2, .int x2)]) (st' := [.int x1, .ref a0]) (h' := (q_si h a0 21 (0 : Int32))) 5 rfl ⟨ta0, trivial⟩ ?_
  obtain ⟨r1, e1, hf⟩ := q_bd hf
  refine v_callV C0 cokX5_suit rfl (rest := []) (ctX5_isSuit a0 x1 ta0 e1) calX5_isSuit lkX5_169 inX5_isSuit dnX5_isSuit (ci := 5) ⟨rfl, by decide⟩ ta0 rfl rfl ⟨by decide, by decide⟩ (Nat.le_of_ble_eq_true rfl) (Nat.le_refl _) (Nat.le_refl _) ?_
  refine v_if_ne C0 cokX5_suit rfl 15 (by decide) hf (fun _ hf => ?_) (fun _ hf => ?_)
  · refine v_run C0 tbX5 cokX5_suit (pc' := 14) (lv' := [(0, .ref a0), (1, .int x1), (2, .int x2)]) (st' := [.int (-1 : Int32)]) (h' := (q_si h a0 21 (0 : Int32))) 1 rfl trivial ?_
    cases hf
    exact v_iret C0 cokX5_suit hr hlk rfl
  · refine v_run C0 tbX5 cokX5_suit (pc' := 16) (lv' := [(0, .ref a0), (1, .int x1), (2, .int x2)]) (st' := [.int x2]) (h' := (q_si h a0 21 (0 : Int32))) 1 rfl trivial ?_
    rcases q_ite hf with ⟨d3, hf⟩ | ⟨d3, hf⟩
    · refine v_tabI C0 dswX5_suit_16 d3 68 (by decide +kernel) (by decide +kernel) ?_
      obtain ⟨g2, hf⟩ := q_gu_o hf
      refine v_run C0 tbX5 cokX5_suit (pc' := 74) (lv' := [(0, .ref a0), (1, .int x1), (2, .int x2)]) (st' := [.int (q_int (q_si h a0 21 (0 : Int32)) (q_ref σ a0 1) (Int32.toNatClampNeg x1))]) (h' := (q_si h a0 21 (0 : Int32))) 4 rfl ⟨⟨ta0, q_tn k0⟩, ⟨k0, g2⟩, trivial⟩ ?_
      cases hf
      exact v_iret C0 cokX5_suit hr hlk rfl
    · rcases q_ite hf with ⟨d5, hf⟩ | ⟨d5, hf⟩
      · refine v_tabI C0 dswX5_suit_16 d5 75 (by decide +kernel) (by decide +kernel) ?_
        obtain ⟨g4, hf⟩ := q_gu_o hf
        refine v_run C0 tbX5 cokX5_suit (pc' := 81) (lv' := [(0, .ref a0), (1, .int x1), (2, .int x2)]) (st' := [.int (q_int (q_si h a0 21 (0 : Int32)) (q_ref σ a0 2) (Int32.toNatClampNeg x1))]) (h' := (q_si h a0 21 (0 : Int32))) 4 rfl ⟨⟨ta0, q_tn k1⟩, ⟨k1, g4⟩, trivial⟩ ?_
        cases hf
        exact v_iret C0 cokX5_suit hr hlk rfl
      · rcases q_ite hf with ⟨d7, hf⟩ | ⟨d7, hf⟩
        · refine v_tabI C0 dswX5_suit_16 d7 82 (by decide +kernel) (by decide +kernel) ?_
          obtain ⟨g6, hf⟩ := q_gu_o hf
          refine v_run C0 tbX5 cokX5_suit (pc' := 88) (lv' := [(0, .ref a0), (1, .int x1), (2, .int x2)]) (st' := [.int (q_int (q_si h a0 21 (0 : Int32)) (q_ref σ a0 3) (Int32.toNatClampNeg x1))]) (h' := (q_si h a0 21 (0 : Int32))) 4 rfl ⟨⟨ta0, q_tn k2⟩, ⟨k2, g6⟩, trivial⟩ ?_
          cases hf
          exact v_iret C0 cokX5_suit hr hlk rfl
        · rcases q_ite hf with ⟨d9, hf⟩ | ⟨d9, hf⟩
          · refine v_tabI C0 dswX5_suit_16 d9 89 (by decide +kernel) (by decide +kernel) ?_
            obtain ⟨g8, hf⟩ := q_gu_o hf
            refine v_run C0 tbX5 cokX5_suit (pc' := 95) (lv' := [(0, .ref a0), (1, .int x1), (2, .int x2)]) (st' := [.int (q_int (q_si h a0 21 (0 : Int32)) (q_ref σ a0 4) (Int32.toNatClampNeg x1))]) (h' := (q_si h a0 21 (0 : Int32))) 4 rfl ⟨⟨ta0, q_tn k3⟩, ⟨k3, g8⟩, trivial⟩ ?_
            cases hf
            exact v_iret C0 cokX5_suit hr hlk rfl
          · rcases q_ite hf with ⟨d11, hf⟩ | ⟨d11, hf⟩
            · refine v_tabI C0 dswX5_suit_16 d11 96 (by decide +kernel) (by decide +kernel) ?_
              obtain ⟨g10, hf⟩ := q_gu_o hf
              refine v_run C0 tbX5 cokX5_suit (pc' := 102) (lv' := [(0, .ref a0), (1, .int x1), (2, .int x2)]) (st' := [.int (q_int (q_si h a0 21 (0 : Int32)) (q_ref σ a0 5) (Int32.toNatClampNeg x1))]) (h' := (q_si h a0 21 (0 : Int32))) 4 rfl ⟨⟨ta0, q_tn k4⟩, ⟨k4, g10⟩, trivial⟩ ?_
              cases hf
              exact v_iret C0 cokX5_suit hr hlk rfl
            · rcases q_ite hf with ⟨d13, hf⟩ | ⟨d13, hf⟩
              · refine v_tabI C0 dswX5_suit_16 d13 103 (by decide +kernel) (by decide +kernel) ?_
                refine v_run C0 tbX5 cokX5_suit (pc' := 105) (lv' := [(0, .ref a0), (1, .int x1), (2, .int x2)]) (st' := [.int x1, .ref a0]) (h' := (q_si h a0 21 (0 : Int32))) 2 rfl trivial ?_
                obtain ⟨r12, e12, hf⟩ := q_bd hf
                refine v_callV C0 cokX5_suit rfl (rest := []) (ctX5_priceOf a0 x1 ta0 e12) calX5_priceOf lkX5_121 inX5_priceOf dnX5_priceOf (ci := 5) ⟨rfl, by decide⟩ ta0 rfl rfl ⟨by decide, by decide⟩ (Nat.le_of_ble_eq_true rfl) (Nat.le_refl _) (Nat.le_refl _) ?_
                cases hf
                exact v_iret C0 cokX5_suit hr hlk rfl
              · rcases q_ite hf with ⟨d15, hf⟩ | ⟨d15, hf⟩
                · refine v_tabI C0 dswX5_suit_16 d15 109 (by decide +kernel) (by decide +kernel) ?_
                  refine v_run C0 tbX5 cokX5_suit (pc' := 111) (lv' := [(0, .ref a0), (1, .int x1), (2, .int x2)]) (st' := [.int x1, .ref a0]) (h' := (q_si h a0 21 (0 : Int32))) 2 rfl trivial ?_
                  obtain ⟨r14, e14, hf⟩ := q_bd hf
                  refine v_callV C0 cokX5_suit rfl (rest := []) (ctX5_givesOf a0 x1 ta0 e14) calX5_givesOf lkX5_110 inX5_givesOf dnX5_givesOf (ci := 5) ⟨rfl, by decide⟩ ta0 rfl rfl ⟨by decide, by decide⟩ (Nat.le_of_ble_eq_true rfl) (Nat.le_refl _) (Nat.le_refl _) ?_
                  cases hf
                  exact v_iret C0 cokX5_suit hr hlk rfl
                · rcases q_ite hf with ⟨d17, hf⟩ | ⟨d17, hf⟩
                  · refine v_tabI C0 dswX5_suit_16 d17 115 (by decide +kernel) (by decide +kernel) ?_
                    refine v_run C0 tbX5 cokX5_suit (pc' := 117) (lv' := [(0, .ref a0), (1, .int x1), (2, .int x2)]) (st' := [.int x1, .ref a0]) (h' := (q_si h a0 21 (0 : Int32))) 2 rfl trivial ?_
                    obtain ⟨r16, e16, hf⟩ := q_bd hf
                    refine v_callV C0 cokX5_suit rfl (rest := []) (ctX5_cleansOf a0 x1 ta0 e16) calX5_cleansOf lkX5_130 inX5_cleansOf dnX5_cleansOf (ci := 5) ⟨rfl, by decide⟩ ta0 rfl rfl ⟨by decide, by decide⟩ (Nat.le_of_ble_eq_true rfl) (Nat.le_refl _) (Nat.le_refl _) ?_
                    cases hf
                    exact v_iret C0 cokX5_suit hr hlk rfl
                  · rcases q_ite hf with ⟨d19, hf⟩ | ⟨d19, hf⟩
                    · refine v_tabI C0 dswX5_suit_16 d19 121 (by decide +kernel) (by decide +kernel) ?_
                      refine v_run C0 tbX5 cokX5_suit (pc' := 123) (lv' := [(0, .ref a0), (1, .int x1), (2, .int x2)]) (st' := [.int x1, .ref a0]) (h' := (q_si h a0 21 (0 : Int32))) 2 rfl trivial ?_
                      obtain ⟨r18, e18, hf⟩ := q_bd hf
                      refine v_callV C0 cokX5_suit rfl (rest := []) (ctX5_lastsOf a0 x1 ta0 e18) calX5_lastsOf lkX5_226 inX5_lastsOf dnX5_lastsOf (ci := 5) ⟨rfl, by decide⟩ ta0 rfl rfl ⟨by decide, by decide⟩ (Nat.le_of_ble_eq_true rfl) (Nat.le_refl _) (Nat.le_refl _) ?_
                      cases hf
                      exact v_iret C0 cokX5_suit hr hlk rfl
                    · refine v_tabO C0 dswX5_suit_16 127 (by decide +kernel) (fun k h1 h2 hk => ?_) ?_
                      · have hk2 : k = 0 ∨ k = 1 ∨ k = 2 ∨ k = 3 ∨ k = 4 ∨ k = 5 ∨ k = 6 ∨ k = 7 ∨ k = 8 := by omega
                        rcases hk2 with rfl | rfl | rfl | rfl | rfl | rfl | rfl | rfl | rfl
                        · exact d3 (Int32.toInt_inj.mp hk)
                        · exact d5 (Int32.toInt_inj.mp hk)
                        · exact d7 (Int32.toInt_inj.mp hk)
                        · exact d9 (Int32.toInt_inj.mp hk)
                        · exact d11 (Int32.toInt_inj.mp hk)
                        · exact d13 (Int32.toInt_inj.mp hk)
                        · exact d15 (Int32.toInt_inj.mp hk)
                        · exact d17 (Int32.toInt_inj.mp hk)
                        · exact d19 (Int32.toInt_inj.mp hk)
                      · refine v_run C0 tbX5 cokX5_suit (pc' := 128) (lv' := [(0, .ref a0), (1, .int x1), (2, .int x2)]) (st' := [.int (-1 : Int32)]) (h' := (q_si h a0 21 (0 : Int32))) 1 rfl trivial ?_
                        cases hf
                        exact v_iret C0 cokX5_suit hr hlk rfl
-- BackByNoonOnMondayModel.booking(II)I
noncomputable def fX5_booking (σ : q_St) (h : q_Hp) (a0 : Nat) (x1 : Int32) (x2 : Int32) : Option (Int32 × q_Hp) := q_gu ((q_tag σ (q_ref σ a0 7) = 7) ∧ (q_tag σ (q_ref σ a0 8) = 7) ∧ (q_tag σ (q_ref σ a0 9) = 7) ∧ (q_tag σ (q_ref σ a0 10) = 7) ∧ (q_tag σ (q_ref σ a0 11) = 7) ∧ (q_tag σ (q_ref σ a0 12) = 7)) (((fX5_isBooking σ (q_si h a0 21 (0 : Int32)) a0 x1).bind fun r1 => (if r1 = 0 then some ((-1 : Int32), (q_si h a0 21 (0 : Int32))) else (if x2 = (0 : Int32) then q_gu ((vp_in x1 (q_len σ (q_ref σ a0 7)))) (some ((q_int (q_si h a0 21 (0 : Int32)) (q_ref σ a0 7) (Int32.toNatClampNeg x1)), (q_si h a0 21 (0 : Int32)))) else (if x2 = (1 : Int32) then q_gu ((vp_in x1 (q_len σ (q_ref σ a0 8)))) (some ((q_int (q_si h a0 21 (0 : Int32)) (q_ref σ a0 8) (Int32.toNatClampNeg x1)), (q_si h a0 21 (0 : Int32)))) else (if x2 = (2 : Int32) then q_gu ((vp_in x1 (q_len σ (q_ref σ a0 9)))) (some ((q_int (q_si h a0 21 (0 : Int32)) (q_ref σ a0 9) (Int32.toNatClampNeg x1)), (q_si h a0 21 (0 : Int32)))) else (if x2 = (3 : Int32) then q_gu ((vp_in x1 (q_len σ (q_ref σ a0 10)))) (some ((q_int (q_si h a0 21 (0 : Int32)) (q_ref σ a0 10) (Int32.toNatClampNeg x1)), (q_si h a0 21 (0 : Int32)))) else (if x2 = (4 : Int32) then q_gu ((vp_in x1 (q_len σ (q_ref σ a0 11)))) (some ((q_int (q_si h a0 21 (0 : Int32)) (q_ref σ a0 11) (Int32.toNatClampNeg x1)), (q_si h a0 21 (0 : Int32)))) else (if x2 = (5 : Int32) then q_gu ((vp_in x1 (q_len σ (q_ref σ a0 12)))) (some ((q_int (q_si h a0 21 (0 : Int32)) (q_ref σ a0 12) (Int32.toNatClampNeg x1)), (q_si h a0 21 (0 : Int32)))) else some ((-1 : Int32), (q_si h a0 21 (0 : Int32))))))))))))
def cdX5_booking : q_Cd := [(0, .aload_n 0), (1, .iconst 0), (2, .putfield 89), (5, .aload_n 0), (6, .iload_n 1), (7, .invokevirtual 173), (10, .ifCond .ne 5), (13, .iconst (-1)), (14, .ireturn), (15, .iload_n 2), (56, .aload_n 0), (57, .getfield 25), (60, .iload_n 1), (61, .iaload), (62, .ireturn), (63, .aload_n 0), (64, .getfield 28), (67, .iload_n 1), (68, .iaload), (69, .ireturn), (70, .aload_n 0), (71, .getfield 31), (74, .iload_n 1), (75, .iaload), (76, .ireturn), (77, .aload_n 0), (78, .getfield 34), (81, .iload_n 1), (82, .iaload), (83, .ireturn), (84, .aload_n 0), (85, .getfield 37), (88, .iload_n 1), (89, .iaload), (90, .ireturn), (91, .aload_n 0), (92, .getfield 40), (95, .iload_n 1), (96, .iaload), (97, .ireturn), (98, .iconst (-1)), (99, .ireturn)]
set_option maxRecDepth 100000 in
theorem cokX5_booking : q_cok cX5_booking cdX5_booking := by unfold q_cok; decide +kernel
theorem dswX5_booking_16 : decode cX5_booking 16 = .ok (.tableswitch 82 0 5 #[40, 47, 54, 61, 68, 75], 40) := by decide +kernel
set_option maxRecDepth 100000 in
set_option maxHeartbeats 4000000 in
theorem ctX5_booking {l : Launch} {D : va_G} {cy : Nat → Nat} {b0 : Nat} {σ : q_St} {h : q_Hp} (a0 : Nat) (x1 : Int32) (x2 : Int32) {r : Int32} {h' : q_Hp} (ta0 : q_tag σ a0 = 6) (hf : fX5_booking σ h a0 x1 x2 = some (r, h')) : q_M l yX5_booking cX5_booking 3 (some .int) 2 46 0 0 D cy b0 σ h [.ref a0, .int x1, .int x2] (some (.int r)) σ h' := by
  unfold fX5_booking at hf
  obtain ⟨⟨k0, k1, k2, k3, k4, k5⟩, hf⟩ := q_gu_o hf
  refine q_enter (by decide) (Nat.le_of_ble_eq_true rfl) ?_
  intro p e s m args below meth c C0 hr hlk _
  replace C0 : VC p { frames := 2, cells := 0, slots := 0, locals := 46 } s m args meth c D cy b0 3 0 0 RX5 cX5_booking := C0
  refine v_run C0 tbX5 cokX5_booking (pc' := 7) (lv' := [(0, .ref a0), (1, .int x1), (2, .int x2)]) (st' := [.int x1, .ref a0]) (h' := (q_si h a0 21 (0 : Int32))) 5 rfl ⟨ta0, trivial⟩ ?_
  obtain ⟨r1, e1, hf⟩ := q_bd hf
  refine v_callV C0 cokX5_booking rfl (rest := []) (ctX5_isBooking a0 x1 ta0 e1) calX5_isBooking lkX5_173 inX5_isBooking dnX5_isBooking (ci := 5) ⟨rfl, by decide⟩ ta0 rfl rfl ⟨by decide, by decide⟩ (Nat.le_of_ble_eq_true rfl) (Nat.le_refl _) (Nat.le_refl _) ?_
  refine v_if_ne C0 cokX5_booking rfl 15 (by decide) hf (fun _ hf => ?_) (fun _ hf => ?_)
  · refine v_run C0 tbX5 cokX5_booking (pc' := 14) (lv' := [(0, .ref a0), (1, .int x1), (2, .int x2)]) (st' := [.int (-1 : Int32)]) (h' := (q_si h a0 21 (0 : Int32))) 1 rfl trivial ?_
    cases hf
    exact v_iret C0 cokX5_booking hr hlk rfl
  · refine v_run C0 tbX5 cokX5_booking (pc' := 16) (lv' := [(0, .ref a0), (1, .int x1), (2, .int x2)]) (st' := [.int x2]) (h' := (q_si h a0 21 (0 : Int32))) 1 rfl trivial ?_
    rcases q_ite hf with ⟨d3, hf⟩ | ⟨d3, hf⟩
    · refine v_tabI C0 dswX5_booking_16 d3 56 (by decide +kernel) (by decide +kernel) ?_
      obtain ⟨g2, hf⟩ := q_gu_o hf
      refine v_run C0 tbX5 cokX5_booking (pc' := 62) (lv' := [(0, .ref a0), (1, .int x1), (2, .int x2)]) (st' := [.int (q_int (q_si h a0 21 (0 : Int32)) (q_ref σ a0 7) (Int32.toNatClampNeg x1))]) (h' := (q_si h a0 21 (0 : Int32))) 4 rfl ⟨⟨ta0, q_tn k0⟩, ⟨k0, g2⟩, trivial⟩ ?_
      cases hf
      exact v_iret C0 cokX5_booking hr hlk rfl
    · rcases q_ite hf with ⟨d5, hf⟩ | ⟨d5, hf⟩
      · refine v_tabI C0 dswX5_booking_16 d5 63 (by decide +kernel) (by decide +kernel) ?_
        obtain ⟨g4, hf⟩ := q_gu_o hf
        refine v_run C0 tbX5 cokX5_booking (pc' := 69) (lv' := [(0, .ref a0), (1, .int x1), (2, .int x2)]) (st' := [.int (q_int (q_si h a0 21 (0 : Int32)) (q_ref σ a0 8) (Int32.toNatClampNeg x1))]) (h' := (q_si h a0 21 (0 : Int32))) 4 rfl ⟨⟨ta0, q_tn k1⟩, ⟨k1, g4⟩, trivial⟩ ?_
        cases hf
        exact v_iret C0 cokX5_booking hr hlk rfl
      · rcases q_ite hf with ⟨d7, hf⟩ | ⟨d7, hf⟩
        · refine v_tabI C0 dswX5_booking_16 d7 70 (by decide +kernel) (by decide +kernel) ?_
          obtain ⟨g6, hf⟩ := q_gu_o hf
          refine v_run C0 tbX5 cokX5_booking (pc' := 76) (lv' := [(0, .ref a0), (1, .int x1), (2, .int x2)]) (st' := [.int (q_int (q_si h a0 21 (0 : Int32)) (q_ref σ a0 9) (Int32.toNatClampNeg x1))]) (h' := (q_si h a0 21 (0 : Int32))) 4 rfl ⟨⟨ta0, q_tn k2⟩, ⟨k2, g6⟩, trivial⟩ ?_
          cases hf
          exact v_iret C0 cokX5_booking hr hlk rfl
        · rcases q_ite hf with ⟨d9, hf⟩ | ⟨d9, hf⟩
          · refine v_tabI C0 dswX5_booking_16 d9 77 (by decide +kernel) (by decide +kernel) ?_
            obtain ⟨g8, hf⟩ := q_gu_o hf
            refine v_run C0 tbX5 cokX5_booking (pc' := 83) (lv' := [(0, .ref a0), (1, .int x1), (2, .int x2)]) (st' := [.int (q_int (q_si h a0 21 (0 : Int32)) (q_ref σ a0 10) (Int32.toNatClampNeg x1))]) (h' := (q_si h a0 21 (0 : Int32))) 4 rfl ⟨⟨ta0, q_tn k3⟩, ⟨k3, g8⟩, trivial⟩ ?_
            cases hf
            exact v_iret C0 cokX5_booking hr hlk rfl
          · rcases q_ite hf with ⟨d11, hf⟩ | ⟨d11, hf⟩
            · refine v_tabI C0 dswX5_booking_16 d11 84 (by decide +kernel) (by decide +kernel) ?_
              obtain ⟨g10, hf⟩ := q_gu_o hf
              refine v_run C0 tbX5 cokX5_booking (pc' := 90) (lv' := [(0, .ref a0), (1, .int x1), (2, .int x2)]) (st' := [.int (q_int (q_si h a0 21 (0 : Int32)) (q_ref σ a0 11) (Int32.toNatClampNeg x1))]) (h' := (q_si h a0 21 (0 : Int32))) 4 rfl ⟨⟨ta0, q_tn k4⟩, ⟨k4, g10⟩, trivial⟩ ?_
              cases hf
              exact v_iret C0 cokX5_booking hr hlk rfl
            · rcases q_ite hf with ⟨d13, hf⟩ | ⟨d13, hf⟩
              · refine v_tabI C0 dswX5_booking_16 d13 91 (by decide +kernel) (by decide +kernel) ?_
                obtain ⟨g12, hf⟩ := q_gu_o hf
                refine v_run C0 tbX5 cokX5_booking (pc' := 97) (lv' := [(0, .ref a0), (1, .int x1), (2, .int x2)]) (st' := [.int (q_int (q_si h a0 21 (0 : Int32)) (q_ref σ a0 12) (Int32.toNatClampNeg x1))]) (h' := (q_si h a0 21 (0 : Int32))) 4 rfl ⟨⟨ta0, q_tn k5⟩, ⟨k5, g12⟩, trivial⟩ ?_
                cases hf
                exact v_iret C0 cokX5_booking hr hlk rfl
              · refine v_tabO C0 dswX5_booking_16 98 (by decide +kernel) (fun k h1 h2 hk => ?_) ?_
                · have hk2 : k = 0 ∨ k = 1 ∨ k = 2 ∨ k = 3 ∨ k = 4 ∨ k = 5 := by omega
                  rcases hk2 with rfl | rfl | rfl | rfl | rfl | rfl
                  · exact d3 (Int32.toInt_inj.mp hk)
                  · exact d5 (Int32.toInt_inj.mp hk)
                  · exact d7 (Int32.toInt_inj.mp hk)
                  · exact d9 (Int32.toInt_inj.mp hk)
                  · exact d11 (Int32.toInt_inj.mp hk)
                  · exact d13 (Int32.toInt_inj.mp hk)
                · refine v_run C0 tbX5 cokX5_booking (pc' := 99) (lv' := [(0, .ref a0), (1, .int x1), (2, .int x2)]) (st' := [.int (-1 : Int32)]) (h' := (q_si h a0 21 (0 : Int32))) 1 rfl trivial ?_
                  cases hf
                  exact v_iret C0 cokX5_booking hr hlk rfl
-- BackByNoonOnMondayModel.wrongKept(I)I
noncomputable def fX5_wrongKept (σ : q_St) (h : q_Hp) (a0 : Nat) (x1 : Int32) : Option Int32 := q_gu ((q_tag σ (q_ref σ a0 15) = 7)) (((fX5_in σ h (Int32.toInt64 x1) (0 : Int64) (7 : Int64)).bind fun r1 => (if r1 = 0 then some (-1 : Int32) else q_gu ((vp_in x1 (q_len σ (q_ref σ a0 15)))) ((if (q_int h (q_ref σ a0 15) (Int32.toNatClampNeg x1)) = 0 then some (-11 : Int32) else (if (q_int h (q_ref σ a0 15) (Int32.toNatClampNeg x1)) = (1 : Int32) then some (0 : Int32) else some (-12 : Int32)))))))
def cdX5_wrongKept : q_Cd := [(0, .iload_n 1), (1, .i2l), (2, .lconst 0), (3, .ldc2_w 229), (6, .invokestatic 96), (9, .ifCond .ne 7), (12, .iconst (-1)), (13, .goto 33), (16, .aload_n 0), (17, .getfield 43), (20, .iload_n 1), (21, .iaload), (22, .ifCond .ne 8), (25, .bipush (-11)), (27, .goto 19), (30, .aload_n 0), (31, .getfield 43), (34, .iload_n 1), (35, .iaload), (36, .iconst 1), (37, .if_icmp .eq 8), (40, .bipush (-12)), (42, .goto 4), (45, .iconst 0), (46, .ireturn)]
set_option maxRecDepth 100000 in
theorem cokX5_wrongKept : q_cok cX5_wrongKept cdX5_wrongKept := by unfold q_cok; decide +kernel
set_option maxRecDepth 100000 in
set_option maxHeartbeats 4000000 in
theorem ctX5_wrongKept {l : Launch} {D : va_G} {cy : Nat → Nat} {b0 : Nat} {σ : q_St} {h : q_Hp} (a0 : Nat) (x1 : Int32) {r : Int32} (ta0 : q_tag σ a0 = 6) (hf : fX5_wrongKept σ h a0 x1 = some r) : q_M l yX5_wrongKept cX5_wrongKept 2 (some .int) 1 25 0 0 D cy b0 σ h [.ref a0, .int x1] (some (.int r)) σ h := by
  unfold fX5_wrongKept at hf
  obtain ⟨k0, hf⟩ := q_gu_o hf
  refine q_enter (by decide) (Nat.le_of_ble_eq_true rfl) ?_
  intro p e s m args below meth c C0 hr hlk _
  replace C0 : VC p { frames := 1, cells := 0, slots := 0, locals := 25 } s m args meth c D cy b0 2 0 0 RX5 cX5_wrongKept := C0
  refine v_run C0 tbX5 cokX5_wrongKept (pc' := 6) (lv' := [(0, .ref a0), (1, .int x1)]) (st' := [.long (7 : Int64), .long (0 : Int64), .long (Int32.toInt64 x1)]) (h' := h) 4 rfl trivial ?_
  obtain ⟨r1, e1, hf⟩ := q_bd hf
  refine v_callS C0 cokX5_wrongKept rfl (rest := []) (ctX5_in (Int32.toInt64 x1) (0 : Int64) (7 : Int64) e1) calX5_in lkX5_96 inX5_in dnX5_in rfl rfl ⟨by decide, by decide⟩ (Nat.le_of_ble_eq_true rfl) (Nat.le_refl _) (Nat.le_refl _) ?_
  refine v_if_ne C0 cokX5_wrongKept rfl 16 (by decide) hf (fun _ hf => ?_) (fun _ hf => ?_)
  · refine v_run C0 tbX5 cokX5_wrongKept (pc' := 46) (lv' := [(0, .ref a0), (1, .int x1)]) (st' := [.int (-1 : Int32)]) (h' := h) 2 rfl trivial ?_
    cases hf
    exact v_iret C0 cokX5_wrongKept hr hlk rfl
  · obtain ⟨g2, hf⟩ := q_gu_o hf
    refine v_run C0 tbX5 cokX5_wrongKept (pc' := 22) (lv' := [(0, .ref a0), (1, .int x1)]) (st' := [.int (q_int h (q_ref σ a0 15) (Int32.toNatClampNeg x1))]) (h' := h) 4 rfl ⟨⟨ta0, q_tn k0⟩, ⟨k0, g2⟩, trivial⟩ ?_
    refine v_if_ne C0 cokX5_wrongKept rfl 30 (by decide) hf (fun _ hf => ?_) (fun _ hf => ?_)
    · refine v_run C0 tbX5 cokX5_wrongKept (pc' := 46) (lv' := [(0, .ref a0), (1, .int x1)]) (st' := [.int (-11 : Int32)]) (h' := h) 2 rfl trivial ?_
      cases hf
      exact v_iret C0 cokX5_wrongKept hr hlk rfl
    · refine v_run C0 tbX5 cokX5_wrongKept (pc' := 37) (lv' := [(0, .ref a0), (1, .int x1)]) (st' := [.int (1 : Int32), .int (q_int h (q_ref σ a0 15) (Int32.toNatClampNeg x1))]) (h' := h) 5 rfl ⟨⟨ta0, q_tn k0⟩, ⟨k0, g2⟩, trivial⟩ ?_
      refine v_icmp_eq C0 cokX5_wrongKept rfl 45 (by decide) hf (fun _ hf => ?_) (fun _ hf => ?_)
      · refine v_run C0 tbX5 cokX5_wrongKept (pc' := 46) (lv' := [(0, .ref a0), (1, .int x1)]) (st' := [.int (0 : Int32)]) (h' := h) 1 rfl trivial ?_
        cases hf
        exact v_iret C0 cokX5_wrongKept hr hlk rfl
      · refine v_run C0 tbX5 cokX5_wrongKept (pc' := 46) (lv' := [(0, .ref a0), (1, .int x1)]) (st' := [.int (-12 : Int32)]) (h' := h) 2 rfl trivial ?_
        cases hf
        exact v_iret C0 cokX5_wrongKept hr hlk rfl
-- BackByNoonOnMondayModel.buys(II)I
noncomputable def fX5_buys_26 (σ : q_St) (h : q_Hp) (a0 : Nat) (x1 : Int32) (x2 : Int32) (s0 : Int32) : Option (Int32 × q_Hp) := (if 0 ≤ s0 then q_gu ((vp_in x1 (q_len σ (q_ref σ a0 16))) ∧ (vp_in x1 (q_len σ (q_ref σ a0 17)))) ((q_b2 (fX5_suitComes σ h a0 (q_int h (q_ref σ a0 16) (Int32.toNatClampNeg x1)) (q_int h (q_ref σ a0 17) (Int32.toNatClampNeg x1)) x2 (0 : Int32)) fun r5 h5 => (if r5 = 0 then some ((-2 : Int32), h5) else some (((q_int h5 a0 0) - (1 : Int32)), h5)))) else some (s0, h))
noncomputable def fX5_buys (σ : q_St) (h : q_Hp) (a0 : Nat) (x1 : Int32) (x2 : Int32) : Option (Int32 × q_Hp) := q_gu ((q_tag σ (q_ref σ a0 16) = 7) ∧ (q_tag σ (q_ref σ a0 17) = 7)) (((fX5_in σ (q_si h a0 21 (0 : Int32)) (Int32.toInt64 x2) (0 : Int64) (20 : Int64)).bind fun r1 => (if r1 = 0 then fX5_buys_26 σ (q_si h a0 21 (0 : Int32)) a0 x1 x2 (-1 : Int32) else ((fX5_wrongKept σ (q_si h a0 21 (0 : Int32)) a0 x1).bind fun r2 => fX5_buys_26 σ (q_si h a0 21 (0 : Int32)) a0 x1 x2 r2))))
def cdX5_buys : q_Cd := [(0, .aload_n 0), (1, .iconst 0), (2, .putfield 89), (5, .iload_n 2), (6, .i2l), (7, .lconst 0), (8, .ldc2_w 231), (11, .invokestatic 96), (14, .ifCond .eq 11), (17, .aload_n 0), (18, .iload_n 1), (19, .invokevirtual 233), (22, .goto 4), (25, .iconst (-1)), (26, .istore_n 3), (27, .iload_n 3), (28, .ifCond .ge 5), (31, .iload_n 3), (32, .ireturn), (33, .aload_n 0), (34, .aload_n 0), (35, .getfield 46), (38, .iload_n 1), (39, .iaload), (40, .aload_n 0), (41, .getfield 49), (44, .iload_n 1), (45, .iaload), (46, .iload_n 2), (47, .iconst 0), (48, .invokevirtual 161), (51, .ifCond .eq 12), (54, .aload_n 0), (55, .getfield 93), (58, .iconst 1), (59, .isub), (60, .goto 5), (63, .bipush (-2)), (65, .ireturn)]
set_option maxRecDepth 100000 in
theorem cokX5_buys : q_cok cX5_buys cdX5_buys := by unfold q_cok; decide +kernel
set_option maxRecDepth 100000 in
set_option maxHeartbeats 4000000 in
theorem ctX5_buys {l : Launch} {D : va_G} {cy : Nat → Nat} {b0 : Nat} {σ : q_St} {h : q_Hp} (a0 : Nat) (x1 : Int32) (x2 : Int32) {r : Int32} {h' : q_Hp} (ta0 : q_tag σ a0 = 6) (hf : fX5_buys σ h a0 x1 x2 = some (r, h')) : q_M l yX5_buys cX5_buys 4 (some .int) 2 46 0 0 D cy b0 σ h [.ref a0, .int x1, .int x2] (some (.int r)) σ h' := by
  unfold fX5_buys at hf
  obtain ⟨⟨k0, k1⟩, hf⟩ := q_gu_o hf
  refine q_enter (by decide) (Nat.le_of_ble_eq_true rfl) ?_
  intro p e s m args below meth c C0 hr hlk _
  replace C0 : VC p { frames := 2, cells := 0, slots := 0, locals := 46 } s m args meth c D cy b0 4 0 0 RX5 cX5_buys := C0
  have n26 : ∀ (h : q_Hp) (s0 : Int32), fX5_buys_26 σ h a0 x1 x2 s0 = some (r, h') → V p l e { frames := 2, cells := 0, slots := 0, locals := 46 } s m args below meth c (MQ below (q_Qc D cy b0 (some (.int r)) σ h') args s 0 0 (fun q => b0 ≤ q)) D cy b0 4 0 0 0 0 σ h 26 [(0, .ref a0), (1, .int x1), (2, .int x2)] [.int s0] := by
    intro h s0 hf
    unfold fX5_buys_26 at hf
    refine v_run C0 tbX5 cokX5_buys (pc' := 28) (lv' := [(3, .int s0), (0, .ref a0), (1, .int x1), (2, .int x2)]) (st' := [.int s0]) (h' := h) 2 rfl trivial ?_
    refine v_if_ge C0 cokX5_buys rfl 33 (by decide) hf (fun _ hf => ?_) (fun _ hf => ?_)
    · obtain ⟨⟨g3, g4⟩, hf⟩ := q_gu_o hf
      refine v_run C0 tbX5 cokX5_buys (pc' := 48) (lv' := [(3, .int s0), (0, .ref a0), (1, .int x1), (2, .int x2)]) (st' := [.int (0 : Int32), .int x2, .int (q_int h (q_ref σ a0 17) (Int32.toNatClampNeg x1)), .int (q_int h (q_ref σ a0 16) (Int32.toNatClampNeg x1)), .ref a0]) (h' := h) 11 rfl ⟨⟨ta0, q_tn k0⟩, ⟨k0, g3⟩, ⟨ta0, q_tn k1⟩, ⟨k1, g4⟩, trivial⟩ ?_
      obtain ⟨r5, h5, e5, hf⟩ := q_bd2 hf
      refine v_callV C0 cokX5_buys rfl (rest := []) (ctX5_suitComes a0 (q_int h (q_ref σ a0 16) (Int32.toNatClampNeg x1)) (q_int h (q_ref σ a0 17) (Int32.toNatClampNeg x1)) x2 (0 : Int32) ta0 e5) calX5_suitComes lkX5_161 inX5_suitComes dnX5_suitComes (ci := 5) ⟨rfl, by decide⟩ ta0 rfl rfl ⟨by decide, by decide⟩ (Nat.le_of_ble_eq_true rfl) (Nat.le_refl _) (Nat.le_refl _) ?_
      refine v_if_eq C0 cokX5_buys rfl 63 (by decide) hf (fun _ hf => ?_) (fun _ hf => ?_)
      · refine v_run C0 tbX5 cokX5_buys (pc' := 65) (lv' := [(3, .int s0), (0, .ref a0), (1, .int x1), (2, .int x2)]) (st' := [.int (-2 : Int32)]) (h' := h5) 1 rfl trivial ?_
        cases hf
        exact v_iret C0 cokX5_buys hr hlk rfl
      · refine v_run C0 tbX5 cokX5_buys (pc' := 65) (lv' := [(3, .int s0), (0, .ref a0), (1, .int x1), (2, .int x2)]) (st' := [.int ((q_int h5 a0 0) - (1 : Int32))]) (h' := h5) 5 rfl ⟨ta0, trivial⟩ ?_
        cases hf
        exact v_iret C0 cokX5_buys hr hlk rfl
    · refine v_run C0 tbX5 cokX5_buys (pc' := 32) (lv' := [(3, .int s0), (0, .ref a0), (1, .int x1), (2, .int x2)]) (st' := [.int s0]) (h' := h) 1 rfl trivial ?_
      cases hf
      exact v_iret C0 cokX5_buys hr hlk rfl
  refine v_run C0 tbX5 cokX5_buys (pc' := 11) (lv' := [(0, .ref a0), (1, .int x1), (2, .int x2)]) (st' := [.long (20 : Int64), .long (0 : Int64), .long (Int32.toInt64 x2)]) (h' := (q_si h a0 21 (0 : Int32))) 7 rfl ⟨ta0, trivial⟩ ?_
  obtain ⟨r1, e1, hf⟩ := q_bd hf
  refine v_callS C0 cokX5_buys rfl (rest := []) (ctX5_in (Int32.toInt64 x2) (0 : Int64) (20 : Int64) e1) calX5_in lkX5_96 inX5_in dnX5_in rfl rfl ⟨by decide, by decide⟩ (Nat.le_of_ble_eq_true rfl) (Nat.le_refl _) (Nat.le_refl _) ?_
  refine v_if_eq C0 cokX5_buys rfl 25 (by decide) hf (fun _ hf => ?_) (fun _ hf => ?_)
  · refine v_run C0 tbX5 cokX5_buys (pc' := 26) (lv' := [(0, .ref a0), (1, .int x1), (2, .int x2)]) (st' := [.int (-1 : Int32)]) (h' := (q_si h a0 21 (0 : Int32))) 1 rfl trivial ?_
    refine v_pick [0, 1, 2] rfl ?_
    exact n26 (q_si h a0 21 (0 : Int32)) (-1 : Int32) hf
  · refine v_run C0 tbX5 cokX5_buys (pc' := 19) (lv' := [(0, .ref a0), (1, .int x1), (2, .int x2)]) (st' := [.int x1, .ref a0]) (h' := (q_si h a0 21 (0 : Int32))) 2 rfl trivial ?_
    obtain ⟨r2, e2, hf⟩ := q_bd hf
    refine v_callV C0 cokX5_buys rfl (rest := []) (ctX5_wrongKept a0 x1 ta0 e2) calX5_wrongKept lkX5_233 inX5_wrongKept dnX5_wrongKept (ci := 5) ⟨rfl, by decide⟩ ta0 rfl rfl ⟨by decide, by decide⟩ (Nat.le_of_ble_eq_true rfl) (Nat.le_refl _) (Nat.le_refl _) ?_
    refine v_run C0 tbX5 cokX5_buys (pc' := 26) (lv' := [(0, .ref a0), (1, .int x1), (2, .int x2)]) (st' := [.int r2]) (h' := (q_si h a0 21 (0 : Int32))) 1 rfl trivial ?_
    refine v_pick [0, 1, 2] rfl ?_
    exact n26 (q_si h a0 21 (0 : Int32)) r2 hf
-- BackByNoonOnMondayModel.books(III)I
noncomputable def fX5_books (σ : q_St) (h : q_Hp) (a0 : Nat) (x1 : Int32) (x2 : Int32) (x3 : Int32) : Option (Int32 × q_Hp) := ((fX5_in σ (q_si h a0 21 (0 : Int32)) (Int32.toInt64 x1) (0 : Int64) (20 : Int64)).bind fun r1 => (if r1 = 0 then some ((-1 : Int32), (q_si h a0 21 (0 : Int32))) else ((fX5_in σ (q_si h a0 21 (0 : Int32)) (Int32.toInt64 x2) (0 : Int64) (3 : Int64)).bind fun r2 => (if r2 = 0 then some ((-1 : Int32), (q_si h a0 21 (0 : Int32))) else ((fX5_in σ (q_si h a0 21 (0 : Int32)) (Int32.toInt64 x3) (0 : Int64) (999 : Int64)).bind fun r3 => (if r3 = 0 then some ((-1 : Int32), (q_si h a0 21 (0 : Int32))) else (q_b2 (fX5_bookingComes σ (q_si h a0 21 (0 : Int32)) a0 x1 x2 (x3 / (100 : Int32)) ((x3 / (10 : Int32)) - (x3 / (10 : Int32)) / (10 : Int32) * (10 : Int32)) (x3 - x3 / (10 : Int32) * (10 : Int32))) fun r4 h4 => (if r4 = 0 then some ((-2 : Int32), h4) else some (((q_int h4 a0 6) - (1 : Int32)), h4)))))))))
def cdX5_books : q_Cd := [(0, .aload_n 0), (1, .iconst 0), (2, .putfield 89), (5, .iload_n 1), (6, .i2l), (7, .lconst 0), (8, .ldc2_w 231), (11, .invokestatic 96), (14, .ifCond .eq 27), (17, .iload_n 2), (18, .i2l), (19, .lconst 0), (20, .ldc2_w 236), (23, .invokestatic 96), (26, .ifCond .eq 15), (29, .iload_n 3), (30, .i2l), (31, .lconst 0), (32, .ldc2_w 238), (35, .invokestatic 96), (38, .ifCond .ne 5), (41, .iconst (-1)), (42, .ireturn), (43, .aload_n 0), (44, .iload_n 1), (45, .iload_n 2), (46, .iload_n 3), (47, .bipush 100), (49, .idiv), (50, .iload_n 3), (51, .bipush 10), (53, .idiv), (54, .bipush 10), (56, .irem), (57, .iload_n 3), (58, .bipush 10), (60, .irem), (61, .invokevirtual 165), (64, .ifCond .eq 12), (67, .aload_n 0), (68, .getfield 100), (71, .iconst 1), (72, .isub), (73, .goto 5), (76, .bipush (-2)), (78, .ireturn)]
set_option maxRecDepth 100000 in
theorem cokX5_books : q_cok cX5_books cdX5_books := by unfold q_cok; decide +kernel
set_option maxRecDepth 100000 in
set_option maxHeartbeats 4000000 in
theorem ctX5_books {l : Launch} {D : va_G} {cy : Nat → Nat} {b0 : Nat} {σ : q_St} {h : q_Hp} (a0 : Nat) (x1 : Int32) (x2 : Int32) (x3 : Int32) {r : Int32} {h' : q_Hp} (ta0 : q_tag σ a0 = 6) (hf : fX5_books σ h a0 x1 x2 x3 = some (r, h')) : q_M l yX5_books cX5_books 4 (some .int) 1 26 0 0 D cy b0 σ h [.ref a0, .int x1, .int x2, .int x3] (some (.int r)) σ h' := by
  unfold fX5_books at hf
  refine q_enter (by decide) (Nat.le_of_ble_eq_true rfl) ?_
  intro p e s m args below meth c C0 hr hlk _
  replace C0 : VC p { frames := 1, cells := 0, slots := 0, locals := 26 } s m args meth c D cy b0 4 0 0 RX5 cX5_books := C0
  refine v_run C0 tbX5 cokX5_books (pc' := 11) (lv' := [(0, .ref a0), (1, .int x1), (2, .int x2), (3, .int x3)]) (st' := [.long (20 : Int64), .long (0 : Int64), .long (Int32.toInt64 x1)]) (h' := (q_si h a0 21 (0 : Int32))) 7 rfl ⟨ta0, trivial⟩ ?_
  obtain ⟨r1, e1, hf⟩ := q_bd hf
  refine v_callS C0 cokX5_books rfl (rest := []) (ctX5_in (Int32.toInt64 x1) (0 : Int64) (20 : Int64) e1) calX5_in lkX5_96 inX5_in dnX5_in rfl rfl ⟨by decide, by decide⟩ (Nat.le_of_ble_eq_true rfl) (Nat.le_refl _) (Nat.le_refl _) ?_
  refine v_if_eq C0 cokX5_books rfl 41 (by decide) hf (fun _ hf => ?_) (fun _ hf => ?_)
  · refine v_run C0 tbX5 cokX5_books (pc' := 42) (lv' := [(0, .ref a0), (1, .int x1), (2, .int x2), (3, .int x3)]) (st' := [.int (-1 : Int32)]) (h' := (q_si h a0 21 (0 : Int32))) 1 rfl trivial ?_
    cases hf
    exact v_iret C0 cokX5_books hr hlk rfl
  · refine v_run C0 tbX5 cokX5_books (pc' := 23) (lv' := [(0, .ref a0), (1, .int x1), (2, .int x2), (3, .int x3)]) (st' := [.long (3 : Int64), .long (0 : Int64), .long (Int32.toInt64 x2)]) (h' := (q_si h a0 21 (0 : Int32))) 4 rfl trivial ?_
    obtain ⟨r2, e2, hf⟩ := q_bd hf
    refine v_callS C0 cokX5_books rfl (rest := []) (ctX5_in (Int32.toInt64 x2) (0 : Int64) (3 : Int64) e2) calX5_in lkX5_96 inX5_in dnX5_in rfl rfl ⟨by decide, by decide⟩ (Nat.le_of_ble_eq_true rfl) (Nat.le_refl _) (Nat.le_refl _) ?_
    refine v_if_eq C0 cokX5_books rfl 41 (by decide) hf (fun _ hf => ?_) (fun _ hf => ?_)
    · refine v_run C0 tbX5 cokX5_books (pc' := 42) (lv' := [(0, .ref a0), (1, .int x1), (2, .int x2), (3, .int x3)]) (st' := [.int (-1 : Int32)]) (h' := (q_si h a0 21 (0 : Int32))) 1 rfl trivial ?_
      cases hf
      exact v_iret C0 cokX5_books hr hlk rfl
    · refine v_run C0 tbX5 cokX5_books (pc' := 35) (lv' := [(0, .ref a0), (1, .int x1), (2, .int x2), (3, .int x3)]) (st' := [.long (999 : Int64), .long (0 : Int64), .long (Int32.toInt64 x3)]) (h' := (q_si h a0 21 (0 : Int32))) 4 rfl trivial ?_
      obtain ⟨r3, e3, hf⟩ := q_bd hf
      refine v_callS C0 cokX5_books rfl (rest := []) (ctX5_in (Int32.toInt64 x3) (0 : Int64) (999 : Int64) e3) calX5_in lkX5_96 inX5_in dnX5_in rfl rfl ⟨by decide, by decide⟩ (Nat.le_of_ble_eq_true rfl) (Nat.le_refl _) (Nat.le_refl _) ?_
      refine v_if_ne C0 cokX5_books rfl 43 (by decide) hf (fun _ hf => ?_) (fun _ hf => ?_)
      · refine v_run C0 tbX5 cokX5_books (pc' := 42) (lv' := [(0, .ref a0), (1, .int x1), (2, .int x2), (3, .int x3)]) (st' := [.int (-1 : Int32)]) (h' := (q_si h a0 21 (0 : Int32))) 1 rfl trivial ?_
        cases hf
        exact v_iret C0 cokX5_books hr hlk rfl
      · refine v_run C0 tbX5 cokX5_books (pc' := 61) (lv' := [(0, .ref a0), (1, .int x1), (2, .int x2), (3, .int x3)]) (st' := [.int (x3 - x3 / (10 : Int32) * (10 : Int32)), .int ((x3 / (10 : Int32)) - (x3 / (10 : Int32)) / (10 : Int32) * (10 : Int32)), .int (x3 / (100 : Int32)), .int x2, .int x1, .ref a0]) (h' := (q_si h a0 21 (0 : Int32))) 14 rfl ⟨(by decide), (by decide), (by decide), (by decide), trivial⟩ ?_
        obtain ⟨r4, h4, e4, hf⟩ := q_bd2 hf
        refine v_callV C0 cokX5_books rfl (rest := []) (ctX5_bookingComes a0 x1 x2 (x3 / (100 : Int32)) ((x3 / (10 : Int32)) - (x3 / (10 : Int32)) / (10 : Int32) * (10 : Int32)) (x3 - x3 / (10 : Int32) * (10 : Int32)) ta0 e4) calX5_bookingComes lkX5_165 inX5_bookingComes dnX5_bookingComes (ci := 5) ⟨rfl, by decide⟩ ta0 rfl rfl ⟨by decide, by decide⟩ (Nat.le_of_ble_eq_true rfl) (Nat.le_refl _) (Nat.le_refl _) ?_
        refine v_if_eq C0 cokX5_books rfl 76 (by decide) hf (fun _ hf => ?_) (fun _ hf => ?_)
        · refine v_run C0 tbX5 cokX5_books (pc' := 78) (lv' := [(0, .ref a0), (1, .int x1), (2, .int x2), (3, .int x3)]) (st' := [.int (-2 : Int32)]) (h' := h4) 1 rfl trivial ?_
          cases hf
          exact v_iret C0 cokX5_books hr hlk rfl
        · refine v_run C0 tbX5 cokX5_books (pc' := 78) (lv' := [(0, .ref a0), (1, .int x1), (2, .int x2), (3, .int x3)]) (st' := [.int ((q_int h4 a0 6) - (1 : Int32))]) (h' := h4) 5 rfl ⟨ta0, trivial⟩ ?_
          cases hf
          exact v_iret C0 cokX5_books hr hlk rfl
-- BackByNoonOnMondayModel.hires(II)I
noncomputable def fX5_hires (σ : q_St) (h : q_Hp) (a0 : Nat) (x1 : Int32) (x2 : Int32) : Option (Int32 × q_Hp) := ((fX5_isSuit σ (q_si h a0 21 (0 : Int32)) a0 x1).bind fun r1 => (if r1 = 0 then some ((-1 : Int32), (q_si h a0 21 (0 : Int32))) else ((fX5_isBooking σ (q_si h a0 21 (0 : Int32)) a0 x2).bind fun r2 => (if r2 = 0 then some ((-1 : Int32), (q_si h a0 21 (0 : Int32))) else ((fX5_canHire σ (q_si h a0 21 (0 : Int32)) a0 x1 x2).bind fun r3 => (if r3 = 0 then some ((-3 : Int32), (q_si h a0 21 (0 : Int32))) else ((fX5_hire σ (q_si h a0 21 (0 : Int32)) a0 x1 x2).bind fun h4 => some ((q_int h4 a0 13), h4))))))))
def cdX5_hires : q_Cd := [(0, .aload_n 0), (1, .iconst 0), (2, .putfield 89), (5, .aload_n 0), (6, .iload_n 1), (7, .invokevirtual 169), (10, .ifCond .eq 11), (13, .aload_n 0), (14, .iload_n 2), (15, .invokevirtual 173), (18, .ifCond .ne 5), (21, .iconst (-1)), (22, .ireturn), (23, .aload_n 0), (24, .iload_n 1), (25, .iload_n 2), (26, .invokevirtual 176), (29, .ifCond .ne 6), (32, .bipush (-3)), (34, .ireturn), (35, .aload_n 0), (36, .iload_n 1), (37, .iload_n 2), (38, .invokevirtual 179), (41, .aload_n 0), (42, .getfield 118), (45, .ireturn)]
set_option maxRecDepth 100000 in
theorem cokX5_hires : q_cok cX5_hires cdX5_hires := by unfold q_cok; decide +kernel
set_option maxRecDepth 100000 in
set_option maxHeartbeats 4000000 in
theorem ctX5_hires {l : Launch} {D : va_G} {cy : Nat → Nat} {b0 : Nat} {σ : q_St} {h : q_Hp} (a0 : Nat) (x1 : Int32) (x2 : Int32) {r : Int32} {h' : q_Hp} (ta0 : q_tag σ a0 = 6) (hf : fX5_hires σ h a0 x1 x2 = some (r, h')) : q_M l yX5_hires cX5_hires 3 (some .int) 3 65 0 0 D cy b0 σ h [.ref a0, .int x1, .int x2] (some (.int r)) σ h' := by
  unfold fX5_hires at hf
  refine q_enter (by decide) (Nat.le_of_ble_eq_true rfl) ?_
  intro p e s m args below meth c C0 hr hlk _
  replace C0 : VC p { frames := 3, cells := 0, slots := 0, locals := 65 } s m args meth c D cy b0 3 0 0 RX5 cX5_hires := C0
  refine v_run C0 tbX5 cokX5_hires (pc' := 7) (lv' := [(0, .ref a0), (1, .int x1), (2, .int x2)]) (st' := [.int x1, .ref a0]) (h' := (q_si h a0 21 (0 : Int32))) 5 rfl ⟨ta0, trivial⟩ ?_
  obtain ⟨r1, e1, hf⟩ := q_bd hf
  refine v_callV C0 cokX5_hires rfl (rest := []) (ctX5_isSuit a0 x1 ta0 e1) calX5_isSuit lkX5_169 inX5_isSuit dnX5_isSuit (ci := 5) ⟨rfl, by decide⟩ ta0 rfl rfl ⟨by decide, by decide⟩ (Nat.le_of_ble_eq_true rfl) (Nat.le_refl _) (Nat.le_refl _) ?_
  refine v_if_eq C0 cokX5_hires rfl 21 (by decide) hf (fun _ hf => ?_) (fun _ hf => ?_)
  · refine v_run C0 tbX5 cokX5_hires (pc' := 22) (lv' := [(0, .ref a0), (1, .int x1), (2, .int x2)]) (st' := [.int (-1 : Int32)]) (h' := (q_si h a0 21 (0 : Int32))) 1 rfl trivial ?_
    cases hf
    exact v_iret C0 cokX5_hires hr hlk rfl
  · refine v_run C0 tbX5 cokX5_hires (pc' := 15) (lv' := [(0, .ref a0), (1, .int x1), (2, .int x2)]) (st' := [.int x2, .ref a0]) (h' := (q_si h a0 21 (0 : Int32))) 2 rfl trivial ?_
    obtain ⟨r2, e2, hf⟩ := q_bd hf
    refine v_callV C0 cokX5_hires rfl (rest := []) (ctX5_isBooking a0 x2 ta0 e2) calX5_isBooking lkX5_173 inX5_isBooking dnX5_isBooking (ci := 5) ⟨rfl, by decide⟩ ta0 rfl rfl ⟨by decide, by decide⟩ (Nat.le_of_ble_eq_true rfl) (Nat.le_refl _) (Nat.le_refl _) ?_
    refine v_if_ne C0 cokX5_hires rfl 23 (by decide) hf (fun _ hf => ?_) (fun _ hf => ?_)
    · refine v_run C0 tbX5 cokX5_hires (pc' := 22) (lv' := [(0, .ref a0), (1, .int x1), (2, .int x2)]) (st' := [.int (-1 : Int32)]) (h' := (q_si h a0 21 (0 : Int32))) 1 rfl trivial ?_
      cases hf
      exact v_iret C0 cokX5_hires hr hlk rfl
    · refine v_run C0 tbX5 cokX5_hires (pc' := 26) (lv' := [(0, .ref a0), (1, .int x1), (2, .int x2)]) (st' := [.int x2, .int x1, .ref a0]) (h' := (q_si h a0 21 (0 : Int32))) 3 rfl trivial ?_
      obtain ⟨r3, e3, hf⟩ := q_bd hf
      refine v_callV C0 cokX5_hires rfl (rest := []) (ctX5_canHire a0 x1 x2 ta0 e3) calX5_canHire lkX5_176 inX5_canHire dnX5_canHire (ci := 5) ⟨rfl, by decide⟩ ta0 rfl rfl ⟨by decide, by decide⟩ (Nat.le_of_ble_eq_true rfl) (Nat.le_refl _) (Nat.le_refl _) ?_
      refine v_if_ne C0 cokX5_hires rfl 35 (by decide) hf (fun _ hf => ?_) (fun _ hf => ?_)
      · refine v_run C0 tbX5 cokX5_hires (pc' := 34) (lv' := [(0, .ref a0), (1, .int x1), (2, .int x2)]) (st' := [.int (-3 : Int32)]) (h' := (q_si h a0 21 (0 : Int32))) 1 rfl trivial ?_
        cases hf
        exact v_iret C0 cokX5_hires hr hlk rfl
      · refine v_run C0 tbX5 cokX5_hires (pc' := 38) (lv' := [(0, .ref a0), (1, .int x1), (2, .int x2)]) (st' := [.int x2, .int x1, .ref a0]) (h' := (q_si h a0 21 (0 : Int32))) 3 rfl trivial ?_
        obtain ⟨h4, e4, hf⟩ := q_bd hf
        refine v_callV C0 cokX5_hires rfl (rest := []) (ctX5_hire a0 x1 x2 ta0 e4) calX5_hire lkX5_179 inX5_hire dnX5_hire (ci := 5) ⟨rfl, by decide⟩ ta0 rfl rfl ⟨by decide, by decide⟩ (Nat.le_of_ble_eq_true rfl) (Nat.le_refl _) (Nat.le_refl _) ?_
        refine v_run C0 tbX5 cokX5_hires (pc' := 45) (lv' := [(0, .ref a0), (1, .int x1), (2, .int x2)]) (st' := [.int (q_int h4 a0 13)]) (h' := h4) 2 rfl ⟨ta0, trivial⟩ ?_
        cases hf
        exact v_iret C0 cokX5_hires hr hlk rfl
-- BackByNoonOnMondayModel.returns(I)I
noncomputable def fX5_returns (σ : q_St) (h : q_Hp) (a0 : Nat) (x1 : Int32) : Option (Int32 × q_Hp) := q_gu ((q_tag σ (q_ref σ a0 5) = 7)) (((fX5_isSuit σ (q_si h a0 21 (0 : Int32)) a0 x1).bind fun r1 => (if r1 = 0 then some ((-1 : Int32), (q_si h a0 21 (0 : Int32))) else q_gu ((vp_in x1 (q_len σ (q_ref σ a0 5)))) ((if (q_int (q_si h a0 21 (0 : Int32)) (q_ref σ a0 5) (Int32.toNatClampNeg x1)) = (1 : Int32) then ((fX5_bookingOf σ (q_si h a0 21 (0 : Int32)) a0 x1).bind fun r3 => ((fX5_comeBack σ (q_si h a0 21 (0 : Int32)) a0 x1).bind fun h4 => some (r3, h4))) else some ((-3 : Int32), (q_si h a0 21 (0 : Int32))))))))
def cdX5_returns : q_Cd := [(0, .aload_n 0), (1, .iconst 0), (2, .putfield 89), (5, .aload_n 0), (6, .iload_n 1), (7, .invokevirtual 169), (10, .ifCond .ne 5), (13, .iconst (-1)), (14, .ireturn), (15, .aload_n 0), (16, .getfield 22), (19, .iload_n 1), (20, .iaload), (21, .iconst 1), (22, .if_icmp .eq 6), (25, .bipush (-3)), (27, .ireturn), (28, .aload_n 0), (29, .iload_n 1), (30, .invokevirtual 124), (33, .istore_n 2), (34, .aload_n 0), (35, .iload_n 1), (36, .invokevirtual 182), (39, .iload_n 2), (40, .ireturn)]
set_option maxRecDepth 100000 in
theorem cokX5_returns : q_cok cX5_returns cdX5_returns := by unfold q_cok; decide +kernel
set_option maxRecDepth 100000 in
set_option maxHeartbeats 4000000 in
theorem ctX5_returns {l : Launch} {D : va_G} {cy : Nat → Nat} {b0 : Nat} {σ : q_St} {h : q_Hp} (a0 : Nat) (x1 : Int32) {r : Int32} {h' : q_Hp} (ta0 : q_tag σ a0 = 6) (hf : fX5_returns σ h a0 x1 = some (r, h')) : q_M l yX5_returns cX5_returns 3 (some .int) 2 46 0 0 D cy b0 σ h [.ref a0, .int x1] (some (.int r)) σ h' := by
  unfold fX5_returns at hf
  obtain ⟨k0, hf⟩ := q_gu_o hf
  refine q_enter (by decide) (Nat.le_of_ble_eq_true rfl) ?_
  intro p e s m args below meth c C0 hr hlk _
  replace C0 : VC p { frames := 2, cells := 0, slots := 0, locals := 46 } s m args meth c D cy b0 3 0 0 RX5 cX5_returns := C0
  refine v_run C0 tbX5 cokX5_returns (pc' := 7) (lv' := [(0, .ref a0), (1, .int x1)]) (st' := [.int x1, .ref a0]) (h' := (q_si h a0 21 (0 : Int32))) 5 rfl ⟨ta0, trivial⟩ ?_
  obtain ⟨r1, e1, hf⟩ := q_bd hf
  refine v_callV C0 cokX5_returns rfl (rest := []) (ctX5_isSuit a0 x1 ta0 e1) calX5_isSuit lkX5_169 inX5_isSuit dnX5_isSuit (ci := 5) ⟨rfl, by decide⟩ ta0 rfl rfl ⟨by decide, by decide⟩ (Nat.le_of_ble_eq_true rfl) (Nat.le_refl _) (Nat.le_refl _) ?_
  refine v_if_ne C0 cokX5_returns rfl 15 (by decide) hf (fun _ hf => ?_) (fun _ hf => ?_)
  · refine v_run C0 tbX5 cokX5_returns (pc' := 14) (lv' := [(0, .ref a0), (1, .int x1)]) (st' := [.int (-1 : Int32)]) (h' := (q_si h a0 21 (0 : Int32))) 1 rfl trivial ?_
    cases hf
    exact v_iret C0 cokX5_returns hr hlk rfl
  · obtain ⟨g2, hf⟩ := q_gu_o hf
    refine v_run C0 tbX5 cokX5_returns (pc' := 22) (lv' := [(0, .ref a0), (1, .int x1)]) (st' := [.int (1 : Int32), .int (q_int (q_si h a0 21 (0 : Int32)) (q_ref σ a0 5) (Int32.toNatClampNeg x1))]) (h' := (q_si h a0 21 (0 : Int32))) 5 rfl ⟨⟨ta0, q_tn k0⟩, ⟨k0, g2⟩, trivial⟩ ?_
    refine v_icmp_eq C0 cokX5_returns rfl 28 (by decide) hf (fun _ hf => ?_) (fun _ hf => ?_)
    · refine v_run C0 tbX5 cokX5_returns (pc' := 30) (lv' := [(0, .ref a0), (1, .int x1)]) (st' := [.int x1, .ref a0]) (h' := (q_si h a0 21 (0 : Int32))) 2 rfl trivial ?_
      obtain ⟨r3, e3, hf⟩ := q_bd hf
      refine v_callV C0 cokX5_returns rfl (rest := []) (ctX5_bookingOf a0 x1 ta0 e3) calX5_bookingOf lkX5_124 inX5_bookingOf dnX5_bookingOf (ci := 5) ⟨rfl, by decide⟩ ta0 rfl rfl ⟨by decide, by decide⟩ (Nat.le_of_ble_eq_true rfl) (Nat.le_refl _) (Nat.le_refl _) ?_
      refine v_run C0 tbX5 cokX5_returns (pc' := 36) (lv' := [(2, .int r3), (0, .ref a0), (1, .int x1)]) (st' := [.int x1, .ref a0]) (h' := (q_si h a0 21 (0 : Int32))) 3 rfl trivial ?_
      obtain ⟨h4, e4, hf⟩ := q_bd hf
      refine v_callV C0 cokX5_returns rfl (rest := []) (ctX5_comeBack a0 x1 ta0 e4) calX5_comeBack lkX5_182 inX5_comeBack dnX5_comeBack (ci := 5) ⟨rfl, by decide⟩ ta0 rfl rfl ⟨by decide, by decide⟩ (Nat.le_of_ble_eq_true rfl) (Nat.le_refl _) (Nat.le_refl _) ?_
      refine v_run C0 tbX5 cokX5_returns (pc' := 40) (lv' := [(2, .int r3), (0, .ref a0), (1, .int x1)]) (st' := [.int r3]) (h' := h4) 1 rfl trivial ?_
      cases hf
      exact v_iret C0 cokX5_returns hr hlk rfl
    · refine v_run C0 tbX5 cokX5_returns (pc' := 27) (lv' := [(0, .ref a0), (1, .int x1)]) (st' := [.int (-3 : Int32)]) (h' := (q_si h a0 21 (0 : Int32))) 1 rfl trivial ?_
      cases hf
      exact v_iret C0 cokX5_returns hr hlk rfl
-- BackByNoonOnMondayModel.cleans(I)I
noncomputable def fX5_cleans (σ : q_St) (h : q_Hp) (a0 : Nat) (x1 : Int32) : Option (Int32 × q_Hp) := ((fX5_isSuit σ (q_si h a0 21 (0 : Int32)) a0 x1).bind fun r1 => (if r1 = 0 then some ((-1 : Int32), (q_si h a0 21 (0 : Int32))) else ((fX5_canClean σ (q_si h a0 21 (0 : Int32)) a0 x1).bind fun r2 => (if r2 = 0 then some ((-3 : Int32), (q_si h a0 21 (0 : Int32))) else ((fX5_clean σ (q_si h a0 21 (0 : Int32)) a0 x1).bind fun h3 => some ((q_int h3 a0 14), h3))))))
def cdX5_cleans : q_Cd := [(0, .aload_n 0), (1, .iconst 0), (2, .putfield 89), (5, .aload_n 0), (6, .iload_n 1), (7, .invokevirtual 169), (10, .ifCond .ne 5), (13, .iconst (-1)), (14, .ireturn), (15, .aload_n 0), (16, .iload_n 1), (17, .invokevirtual 186), (20, .ifCond .ne 6), (23, .bipush (-3)), (25, .ireturn), (26, .aload_n 0), (27, .iload_n 1), (28, .invokevirtual 189), (31, .aload_n 0), (32, .getfield 127), (35, .ireturn)]
set_option maxRecDepth 100000 in
theorem cokX5_cleans : q_cok cX5_cleans cdX5_cleans := by unfold q_cok; decide +kernel
set_option maxRecDepth 100000 in
set_option maxHeartbeats 4000000 in
theorem ctX5_cleans {l : Launch} {D : va_G} {cy : Nat → Nat} {b0 : Nat} {σ : q_St} {h : q_Hp} (a0 : Nat) (x1 : Int32) {r : Int32} {h' : q_Hp} (ta0 : q_tag σ a0 = 6) (hf : fX5_cleans σ h a0 x1 = some (r, h')) : q_M l yX5_cleans cX5_cleans 2 (some .int) 2 46 0 0 D cy b0 σ h [.ref a0, .int x1] (some (.int r)) σ h' := by
  unfold fX5_cleans at hf
  refine q_enter (by decide) (Nat.le_of_ble_eq_true rfl) ?_
  intro p e s m args below meth c C0 hr hlk _
  replace C0 : VC p { frames := 2, cells := 0, slots := 0, locals := 46 } s m args meth c D cy b0 2 0 0 RX5 cX5_cleans := C0
  refine v_run C0 tbX5 cokX5_cleans (pc' := 7) (lv' := [(0, .ref a0), (1, .int x1)]) (st' := [.int x1, .ref a0]) (h' := (q_si h a0 21 (0 : Int32))) 5 rfl ⟨ta0, trivial⟩ ?_
  obtain ⟨r1, e1, hf⟩ := q_bd hf
  refine v_callV C0 cokX5_cleans rfl (rest := []) (ctX5_isSuit a0 x1 ta0 e1) calX5_isSuit lkX5_169 inX5_isSuit dnX5_isSuit (ci := 5) ⟨rfl, by decide⟩ ta0 rfl rfl ⟨by decide, by decide⟩ (Nat.le_of_ble_eq_true rfl) (Nat.le_refl _) (Nat.le_refl _) ?_
  refine v_if_ne C0 cokX5_cleans rfl 15 (by decide) hf (fun _ hf => ?_) (fun _ hf => ?_)
  · refine v_run C0 tbX5 cokX5_cleans (pc' := 14) (lv' := [(0, .ref a0), (1, .int x1)]) (st' := [.int (-1 : Int32)]) (h' := (q_si h a0 21 (0 : Int32))) 1 rfl trivial ?_
    cases hf
    exact v_iret C0 cokX5_cleans hr hlk rfl
  · refine v_run C0 tbX5 cokX5_cleans (pc' := 17) (lv' := [(0, .ref a0), (1, .int x1)]) (st' := [.int x1, .ref a0]) (h' := (q_si h a0 21 (0 : Int32))) 2 rfl trivial ?_
    obtain ⟨r2, e2, hf⟩ := q_bd hf
    refine v_callV C0 cokX5_cleans rfl (rest := []) (ctX5_canClean a0 x1 ta0 e2) calX5_canClean lkX5_186 inX5_canClean dnX5_canClean (ci := 5) ⟨rfl, by decide⟩ ta0 rfl rfl ⟨by decide, by decide⟩ (Nat.le_of_ble_eq_true rfl) (Nat.le_refl _) (Nat.le_refl _) ?_
    refine v_if_ne C0 cokX5_cleans rfl 26 (by decide) hf (fun _ hf => ?_) (fun _ hf => ?_)
    · refine v_run C0 tbX5 cokX5_cleans (pc' := 25) (lv' := [(0, .ref a0), (1, .int x1)]) (st' := [.int (-3 : Int32)]) (h' := (q_si h a0 21 (0 : Int32))) 1 rfl trivial ?_
      cases hf
      exact v_iret C0 cokX5_cleans hr hlk rfl
    · refine v_run C0 tbX5 cokX5_cleans (pc' := 28) (lv' := [(0, .ref a0), (1, .int x1)]) (st' := [.int x1, .ref a0]) (h' := (q_si h a0 21 (0 : Int32))) 2 rfl trivial ?_
      obtain ⟨h3, e3, hf⟩ := q_bd hf
      refine v_callV C0 cokX5_cleans rfl (rest := []) (ctX5_clean a0 x1 ta0 e3) calX5_clean lkX5_189 inX5_clean dnX5_clean (ci := 5) ⟨rfl, by decide⟩ ta0 rfl rfl ⟨by decide, by decide⟩ (Nat.le_of_ble_eq_true rfl) (Nat.le_refl _) (Nat.le_refl _) ?_
      refine v_run C0 tbX5 cokX5_cleans (pc' := 35) (lv' := [(0, .ref a0), (1, .int x1)]) (st' := [.int (q_int h3 a0 14)]) (h' := h3) 2 rfl ⟨ta0, trivial⟩ ?_
      cases hf
      exact v_iret C0 cokX5_cleans hr hlk rfl
-- BackByNoonOnMondayModel.fits(II)I
noncomputable def fX5_fits (σ : q_St) (h : q_Hp) (a0 : Nat) (x1 : Int32) (x2 : Int32) : Option (Int32 × q_Hp) := ((fX5_isSuit σ (q_si h a0 21 (0 : Int32)) a0 x1).bind fun r1 => (if r1 = 0 then some ((-1 : Int32), (q_si h a0 21 (0 : Int32))) else ((fX5_isBooking σ (q_si h a0 21 (0 : Int32)) a0 x2).bind fun r2 => (if r2 = 0 then some ((-1 : Int32), (q_si h a0 21 (0 : Int32))) else ((fX5_fitsIn σ (q_si h a0 21 (0 : Int32)) a0 x1 x2).bind fun r3 => (if r3 = 0 then some ((0 : Int32), (q_si h a0 21 (0 : Int32))) else some ((1 : Int32), (q_si h a0 21 (0 : Int32)))))))))
def cdX5_fits : q_Cd := [(0, .aload_n 0), (1, .iconst 0), (2, .putfield 89), (5, .aload_n 0), (6, .iload_n 1), (7, .invokevirtual 169), (10, .ifCond .eq 28), (13, .aload_n 0), (14, .iload_n 2), (15, .invokevirtual 173), (18, .ifCond .eq 20), (21, .aload_n 0), (22, .iload_n 1), (23, .iload_n 2), (24, .invokevirtual 114), (27, .ifCond .eq 7), (30, .iconst 1), (31, .goto 8), (34, .iconst 0), (35, .goto 4), (38, .iconst (-1)), (39, .ireturn)]
set_option maxRecDepth 100000 in
theorem cokX5_fits : q_cok cX5_fits cdX5_fits := by unfold q_cok; decide +kernel
set_option maxRecDepth 100000 in
set_option maxHeartbeats 4000000 in
theorem ctX5_fits {l : Launch} {D : va_G} {cy : Nat → Nat} {b0 : Nat} {σ : q_St} {h : q_Hp} (a0 : Nat) (x1 : Int32) (x2 : Int32) {r : Int32} {h' : q_Hp} (ta0 : q_tag σ a0 = 6) (hf : fX5_fits σ h a0 x1 x2 = some (r, h')) : q_M l yX5_fits cX5_fits 3 (some .int) 2 46 0 0 D cy b0 σ h [.ref a0, .int x1, .int x2] (some (.int r)) σ h' := by
  unfold fX5_fits at hf
  refine q_enter (by decide) (Nat.le_of_ble_eq_true rfl) ?_
  intro p e s m args below meth c C0 hr hlk _
  replace C0 : VC p { frames := 2, cells := 0, slots := 0, locals := 46 } s m args meth c D cy b0 3 0 0 RX5 cX5_fits := C0
  refine v_run C0 tbX5 cokX5_fits (pc' := 7) (lv' := [(0, .ref a0), (1, .int x1), (2, .int x2)]) (st' := [.int x1, .ref a0]) (h' := (q_si h a0 21 (0 : Int32))) 5 rfl ⟨ta0, trivial⟩ ?_
  obtain ⟨r1, e1, hf⟩ := q_bd hf
  refine v_callV C0 cokX5_fits rfl (rest := []) (ctX5_isSuit a0 x1 ta0 e1) calX5_isSuit lkX5_169 inX5_isSuit dnX5_isSuit (ci := 5) ⟨rfl, by decide⟩ ta0 rfl rfl ⟨by decide, by decide⟩ (Nat.le_of_ble_eq_true rfl) (Nat.le_refl _) (Nat.le_refl _) ?_
  refine v_if_eq C0 cokX5_fits rfl 38 (by decide) hf (fun _ hf => ?_) (fun _ hf => ?_)
  · refine v_run C0 tbX5 cokX5_fits (pc' := 39) (lv' := [(0, .ref a0), (1, .int x1), (2, .int x2)]) (st' := [.int (-1 : Int32)]) (h' := (q_si h a0 21 (0 : Int32))) 1 rfl trivial ?_
    cases hf
    exact v_iret C0 cokX5_fits hr hlk rfl
  · refine v_run C0 tbX5 cokX5_fits (pc' := 15) (lv' := [(0, .ref a0), (1, .int x1), (2, .int x2)]) (st' := [.int x2, .ref a0]) (h' := (q_si h a0 21 (0 : Int32))) 2 rfl trivial ?_
    obtain ⟨r2, e2, hf⟩ := q_bd hf
    refine v_callV C0 cokX5_fits rfl (rest := []) (ctX5_isBooking a0 x2 ta0 e2) calX5_isBooking lkX5_173 inX5_isBooking dnX5_isBooking (ci := 5) ⟨rfl, by decide⟩ ta0 rfl rfl ⟨by decide, by decide⟩ (Nat.le_of_ble_eq_true rfl) (Nat.le_refl _) (Nat.le_refl _) ?_
    refine v_if_eq C0 cokX5_fits rfl 38 (by decide) hf (fun _ hf => ?_) (fun _ hf => ?_)
    · refine v_run C0 tbX5 cokX5_fits (pc' := 39) (lv' := [(0, .ref a0), (1, .int x1), (2, .int x2)]) (st' := [.int (-1 : Int32)]) (h' := (q_si h a0 21 (0 : Int32))) 1 rfl trivial ?_
      cases hf
      exact v_iret C0 cokX5_fits hr hlk rfl
    · refine v_run C0 tbX5 cokX5_fits (pc' := 24) (lv' := [(0, .ref a0), (1, .int x1), (2, .int x2)]) (st' := [.int x2, .int x1, .ref a0]) (h' := (q_si h a0 21 (0 : Int32))) 3 rfl trivial ?_
      obtain ⟨r3, e3, hf⟩ := q_bd hf
      refine v_callV C0 cokX5_fits rfl (rest := []) (ctX5_fitsIn a0 x1 x2 ta0 e3) calX5_fitsIn lkX5_114 inX5_fitsIn dnX5_fitsIn (ci := 5) ⟨rfl, by decide⟩ ta0 rfl rfl ⟨by decide, by decide⟩ (Nat.le_of_ble_eq_true rfl) (Nat.le_refl _) (Nat.le_refl _) ?_
      refine v_if_eq C0 cokX5_fits rfl 34 (by decide) hf (fun _ hf => ?_) (fun _ hf => ?_)
      · refine v_run C0 tbX5 cokX5_fits (pc' := 39) (lv' := [(0, .ref a0), (1, .int x1), (2, .int x2)]) (st' := [.int (0 : Int32)]) (h' := (q_si h a0 21 (0 : Int32))) 2 rfl trivial ?_
        cases hf
        exact v_iret C0 cokX5_fits hr hlk rfl
      · refine v_run C0 tbX5 cokX5_fits (pc' := 39) (lv' := [(0, .ref a0), (1, .int x1), (2, .int x2)]) (st' := [.int (1 : Int32)]) (h' := (q_si h a0 21 (0 : Int32))) 2 rfl trivial ?_
        cases hf
        exact v_iret C0 cokX5_fits hr hlk rfl
