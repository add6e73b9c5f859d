-- BackByNoonOnMondayModel.bookingComes(IIIII)Z
noncomputable def fX5_bookingComes_25 (σ : q_St) (h : q_Hp) (a0 : Nat) (x1 : Int32) (x2 : Int32) (x3 : Int32) (x4 : Int32) (x5 : Int32) (s0 : Int32) : Option (Int32 × q_Hp) := (if s0 = 0 then q_gu ((s0 = 0 ∨ s0 = 1)) (some (s0, h)) else q_gu ((vp_in (q_int h a0 6) (q_len σ (q_ref σ a0 7))) ∧ (vp_in (q_int (q_si h (q_ref σ a0 7) (Int32.toNatClampNeg (q_int h a0 6)) x1) a0 6) (q_len σ (q_ref σ a0 8))) ∧ (vp_in (q_int (q_si (q_si h (q_ref σ a0 7) (Int32.toNatClampNeg (q_int h a0 6)) x1) (q_ref σ a0 8) (Int32.toNatClampNeg (q_int (q_si h (q_ref σ a0 7) (Int32.toNatClampNeg (q_int h a0 6)) x1) a0 6)) x2) a0 6) (q_len σ (q_ref σ a0 9))) ∧ (vp_in (q_int (q_si (q_si (q_si h (q_ref σ a0 7) (Int32.toNatClampNeg (q_int h a0 6)) x1) (q_ref σ a0 8) (Int32.toNatClampNeg (q_int (q_si h (q_ref σ a0 7) (Int32.toNatClampNeg (q_int h a0 6)) x1) a0 6)) x2) (q_ref σ a0 9) (Int32.toNatClampNeg (q_int (q_si (q_si h (q_ref σ a0 7) (Int32.toNatClampNeg (q_int h a0 6)) x1) (q_ref σ a0 8) (Int32.toNatClampNeg (q_int (q_si h (q_ref σ a0 7) (Int32.toNatClampNeg (q_int h a0 6)) x1) a0 6)) x2) a0 6)) x3) a0 6) (q_len σ (q_ref σ a0 10))) ∧ (vp_in (q_int (q_si (q_si (q_si (q_si h (q_ref σ a0 7) (Int32.toNatClampNeg (q_int h a0 6)) x1) (q_ref σ a0 8) (Int32.toNatClampNeg (q_int (q_si h (q_ref σ a0 7) (Int32.toNatClampNeg (q_int h a0 6)) x1) a0 6)) x2) (q_ref σ a0 9) (Int32.toNatClampNeg (q_int (q_si (q_si h (q_ref σ a0 7) (Int32.toNatClampNeg (q_int h a0 6)) x1) (q_ref σ a0 8) (Int32.toNatClampNeg (q_int (q_si h (q_ref σ a0 7) (Int32.toNatClampNeg (q_int h a0 6)) x1) a0 6)) x2) a0 6)) x3) (q_ref σ a0 10) (Int32.toNatClampNeg (q_int (q_si (q_si (q_si h (q_ref σ a0 7) (Int32.toNatClampNeg (q_int h a0 6)) x1) (q_ref σ a0 8) (Int32.toNatClampNeg (q_int (q_si h (q_ref σ a0 7) (Int32.toNatClampNeg (q_int h a0 6)) x1) a0 6)) x2) (q_ref σ a0 9) (Int32.toNatClampNeg (q_int (q_si (q_si h (q_ref σ a0 7) (Int32.toNatClampNeg (q_int h a0 6)) x1) (q_ref σ a0 8) (Int32.toNatClampNeg (q_int (q_si h (q_ref σ a0 7) (Int32.toNatClampNeg (q_int h a0 6)) x1) a0 6)) x2) a0 6)) x3) a0 6)) x4) a0 6) (q_len σ (q_ref σ a0 11))) ∧ (vp_in (q_int (q_si (q_si (q_si (q_si (q_si h (q_ref σ a0 7) (Int32.toNatClampNeg (q_int h a0 6)) x1) (q_ref σ a0 8) (Int32.toNatClampNeg (q_int (q_si h (q_ref σ a0 7) (Int32.toNatClampNeg (q_int h a0 6)) x1) a0 6)) x2) (q_ref σ a0 9) (Int32.toNatClampNeg (q_int (q_si (q_si h (q_ref σ a0 7) (Int32.toNatClampNeg (q_int h a0 6)) x1) (q_ref σ a0 8) (Int32.toNatClampNeg (q_int (q_si h (q_ref σ a0 7) (Int32.toNatClampNeg (q_int h a0 6)) x1) a0 6)) x2) a0 6)) x3) (q_ref σ a0 10) (Int32.toNatClampNeg (q_int (q_si (q_si (q_si h (q_ref σ a0 7) (Int32.toNatClampNeg (q_int h a0 6)) x1) (q_ref σ a0 8) (Int32.toNatClampNeg (q_int (q_si h (q_ref σ a0 7) (Int32.toNatClampNeg (q_int h a0 6)) x1) a0 6)) x2) (q_ref σ a0 9) (Int32.toNatClampNeg (q_int (q_si (q_si h (q_ref σ a0 7) (Int32.toNatClampNeg (q_int h a0 6)) x1) (q_ref σ a0 8) (Int32.toNatClampNeg (q_int (q_si h (q_ref σ a0 7) (Int32.toNatClampNeg (q_int h a0 6)) x1) a0 6)) x2) a0 6)) x3) a0 6)) x4) (q_ref σ a0 11) (Int32.toNatClampNeg (q_int (q_si (q_si (q_si (q_si h (q_ref σ a0 7) (Int32.toNatClampNeg (q_int h a0 6)) x1) (q_ref σ a0 8) (Int32.toNatClampNeg (q_int (q_si h (q_ref σ a0 7) (Int32.toNatClampNeg (q_int h a0 6)) x1) a0 6)) x2) (q_ref σ a0 9) (Int32.toNatClampNeg (q_int (q_si (q_si h (q_ref σ a0 7) (Int32.toNatClampNeg (q_int h a0 6)) x1) (q_ref σ a0 8) (Int32.toNatClampNeg (q_int (q_si h (q_ref σ a0 7) (Int32.toNatClampNeg (q_int h a0 6)) x1) a0 6)) x2) a0 6)) x3) (q_ref σ a0 10) (Int32.toNatClampNeg (q_int (q_si (q_si (q_si h (q_ref σ a0 7) (Int32.toNatClampNeg (q_int h a0 6)) x1) (q_ref σ a0 8) (Int32.toNatClampNeg (q_int (q_si h (q_ref σ a0 7) (Int32.toNatClampNeg (q_int h a0 6)) x1) a0 6)) x2) (q_ref σ a0 9) (Int32.toNatClampNeg (q_int (q_si (q_si h (q_ref σ a0 7) (Int32.toNatClampNeg (q_int h a0 6)) x1) (q_ref σ a0 8) (Int32.toNatClampNeg (q_int (q_si h (q_ref σ a0 7) (Int32.toNatClampNeg (q_int h a0 6)) x1) a0 6)) x2) a0 6)) x3) a0 6)) x4) a0 6)) x5) a0 6) (q_len σ (q_ref σ a0 12)))) (q_gu ((s0 = 0 ∨ s0 = 1)) (some (s0, (q_si (q_si (q_si (q_si (q_si (q_si (q_si h (q_ref σ a0 7) (Int32.toNatClampNeg (q_int h a0 6)) x1) (q_ref σ a0 8) (Int32.toNatClampNeg (q_int (q_si h (q_ref σ a0 7) (Int32.toNatClampNeg (q_int h a0 6)) x1) a0 6)) x2) (q_ref σ a0 9) (Int32.toNatClampNeg (q_int (q_si (q_si h (q_ref σ a0 7) (Int32.toNatClampNeg (q_int h a0 6)) x1) (q_ref σ a0 8) (Int32.toNatClampNeg (q_int (q_si h (q_ref σ a0 7) (Int32.toNatClampNeg (q_int h a0 6)) x1) a0 6)) x2) a0 6)) x3) (q_ref σ a0 10) (Int32.toNatClampNeg (q_int (q_si (q_si (q_si h (q_ref σ a0 7) (Int32.toNatClampNeg (q_int h a0 6)) x1) (q_ref σ a0 8) (Int32.toNatClampNeg (q_int (q_si h (q_ref σ a0 7) (Int32.toNatClampNeg (q_int h a0 6)) x1) a0 6)) x2) (q_ref σ a0 9) (Int32.toNatClampNeg (q_int (q_si (q_si h (q_ref σ a0 7) (Int32.toNatClampNeg (q_int h a0 6)) x1) (q_ref σ a0 8) (Int32.toNatClampNeg (q_int (q_si h (q_ref σ a0 7) (Int32.toNatClampNeg (q_int h a0 6)) x1) a0 6)) x2) a0 6)) x3) a0 6)) x4) (q_ref σ a0 11) (Int32.toNatClampNeg (q_int (q_si (q_si (q_si (q_si h (q_ref σ a0 7) (Int32.toNatClampNeg (q_int h a0 6)) x1) (q_ref σ a0 8) (Int32.toNatClampNeg (q_int (q_si h (q_ref σ a0 7) (Int32.toNatClampNeg (q_int h a0 6)) x1) a0 6)) x2) (q_ref σ a0 9) (Int32.toNatClampNeg (q_int (q_si (q_si h (q_ref σ a0 7) (Int32.toNatClampNeg (q_int h a0 6)) x1) (q_ref σ a0 8) (Int32.toNatClampNeg (q_int (q_si h (q_ref σ a0 7) (Int32.toNatClampNeg (q_int h a0 6)) x1) a0 6)) x2) a0 6)) x3) (q_ref σ a0 10) (Int32.toNatClampNeg (q_int (q_si (q_si (q_si h (q_ref σ a0 7) (Int32.toNatClampNeg (q_int h a0 6)) x1) (q_ref σ a0 8) (Int32.toNatClampNeg (q_int (q_si h (q_ref σ a0 7) (Int32.toNatClampNeg (q_int h a0 6)) x1) a0 6)) x2) (q_ref σ a0 9) (Int32.toNatClampNeg (q_int (q_si (q_si h (q_ref σ a0 7) (Int32.toNatClampNeg (q_int h a0 6)) x1) (q_ref σ a0 8) (Int32.toNatClampNeg (q_int (q_si h (q_ref σ a0 7) (Int32.toNatClampNeg (q_int h a0 6)) x1) a0 6)) x2) a0 6)) x3) a0 6)) x4) a0 6)) x5) (q_ref σ a0 12) (Int32.toNatClampNeg (q_int (q_si (q_si (q_si (q_si (q_si h (q_ref σ a0 7) (Int32.toNatClampNeg (q_int h a0 6)) x1) (q_ref σ a0 8) (Int32.toNatClampNeg (q_int (q_si h (q_ref σ a0 7) (Int32.toNatClampNeg (q_int h a0 6)) x1) a0 6)) x2) (q_ref σ a0 9) (Int32.toNatClampNeg (q_int (q_si (q_si h (q_ref σ a0 7) (Int32.toNatClampNeg (q_int h a0 6)) x1) (q_ref σ a0 8) (Int32.toNatClampNeg (q_int (q_si h (q_ref σ a0 7) (Int32.toNatClampNeg (q_int h a0 6)) x1) a0 6)) x2) a0 6)) x3) (q_ref σ a0 10) (Int32.toNatClampNeg (q_int (q_si (q_si (q_si h (q_ref σ a0 7) (Int32.toNatClampNeg (q_int h a0 6)) x1) (q_ref σ a0 8) (Int32.toNatClampNeg (q_int (q_si h (q_ref σ a0 7) (Int32.toNatClampNeg (q_int h a0 6)) x1) a0 6)) x2) (q_ref σ a0 9) (Int32.toNatClampNeg (q_int (q_si (q_si h (q_ref σ a0 7) (Int32.toNatClampNeg (q_int h a0 6)) x1) (q_ref σ a0 8) (Int32.toNatClampNeg (q_int (q_si h (q_ref σ a0 7) (Int32.toNatClampNeg (q_int h a0 6)) x1) a0 6)) x2) a0 6)) x3) a0 6)) x4) (q_ref σ a0 11) (Int32.toNatClampNeg (q_int (q_si (q_si (q_si (q_si h (q_ref σ a0 7) (Int32.toNatClampNeg (q_int h a0 6)) x1) (q_ref σ a0 8) (Int32.toNatClampNeg (q_int (q_si h (q_ref σ a0 7) (Int32.toNatClampNeg (q_int h a0 6)) x1) a0 6)) x2) (q_ref σ a0 9) (Int32.toNatClampNeg (q_int (q_si (q_si h (q_ref σ a0 7) (Int32.toNatClampNeg (q_int h a0 6)) x1) (q_ref σ a0 8) (Int32.toNatClampNeg (q_int (q_si h (q_ref σ a0 7) (Int32.toNatClampNeg (q_int h a0 6)) x1) a0 6)) x2) a0 6)) x3) (q_ref σ a0 10) (Int32.toNatClampNeg (q_int (q_si (q_si (q_si h (q_ref σ a0 7) (Int32.toNatClampNeg (q_int h a0 6)) x1) (q_ref σ a0 8) (Int32.toNatClampNeg (q_int (q_si h (q_ref σ a0 7) (Int32.toNatClampNeg (q_int h a0 6)) x1) a0 6)) x2) (q_ref σ a0 9) (Int32.toNatClampNeg (q_int (q_si (q_si h (q_ref σ a0 7) (Int32.toNatClampNeg (q_int h a0 6)) x1) (q_ref σ a0 8) (Int32.toNatClampNeg (q_int (q_si h (q_ref σ a0 7) (Int32.toNatClampNeg (q_int h a0 6)) x1) a0 6)) x2) a0 6)) x3) a0 6)) x4) a0 6)) x5) a0 6)) (9 : Int32)) a0 6 ((q_int (q_si (q_si (q_si (q_si (q_si (q_si h (q_ref σ a0 7) (Int32.toNatClampNeg (q_int h a0 6)) x1) (q_ref σ a0 8) (Int32.toNatClampNeg (q_int (q_si h (q_ref σ a0 7) (Int32.toNatClampNeg (q_int h a0 6)) x1) a0 6)) x2) (q_ref σ a0 9) (Int32.toNatClampNeg (q_int (q_si (q_si h (q_ref σ a0 7) (Int32.toNatClampNeg (q_int h a0 6)) x1) (q_ref σ a0 8) (Int32.toNatClampNeg (q_int (q_si h (q_ref σ a0 7) (Int32.toNatClampNeg (q_int h a0 6)) x1) a0 6)) x2) a0 6)) x3) (q_ref σ a0 10) (Int32.toNatClampNeg (q_int (q_si (q_si (q_si h (q_ref σ a0 7) (Int32.toNatClampNeg (q_int h a0 6)) x1) (q_ref σ a0 8) (Int32.toNatClampNeg (q_int (q_si h (q_ref σ a0 7) (Int32.toNatClampNeg (q_int h a0 6)) x1) a0 6)) x2) (q_ref σ a0 9) (Int32.toNatClampNeg (q_int (q_si (q_si h (q_ref σ a0 7) (Int32.toNatClampNeg (q_int h a0 6)) x1) (q_ref σ a0 8) (Int32.toNatClampNeg (q_int (q_si h (q_ref σ a0 7) (Int32.toNatClampNeg (q_int h a0 6)) x1) a0 6)) x2) a0 6)) x3) a0 6)) x4) (q_ref σ a0 11) (Int32.toNatClampNeg (q_int (q_si (q_si (q_si (q_si h (q_ref σ a0 7) (Int32.toNatClampNeg (q_int h a0 6)) x1) (q_ref σ a0 8) (Int32.toNatClampNeg (q_int (q_si h (q_ref σ a0 7) (Int32.toNatClampNeg (q_int h a0 6)) x1) a0 6)) x2) (q_ref σ a0 9) (Int32.toNatClampNeg (q_int (q_si (q_si h (q_ref σ a0 7) (Int32.toNatClampNeg (q_int h a0 6)) x1) (q_ref σ a0 8) (Int32.toNatClampNeg (q_int (q_si h (q_ref σ a0 7) (Int32.toNatClampNeg (q_int h a0 6)) x1) a0 6)) x2) a0 6)) x3) (q_ref σ a0 10) (Int32.toNatClampNeg (q_int (q_si (q_si (q_si h (q_ref σ a0 7) (Int32.toNatClampNeg (q_int h a0 6)) x1) (q_ref σ a0 8) (Int32.toNatClampNeg (q_int (q_si h (q_ref σ a0 7) (Int32.toNatClampNeg (q_int h a0 6)) x1) a0 6)) x2) (q_ref σ a0 9) (Int32.toNatClampNeg (q_int (q_si (q_si h (q_ref σ a0 7) (Int32.toNatClampNeg (q_int h a0 6)) x1) (q_ref σ a0 8) (Int32.toNatClampNeg (q_int (q_si h (q_ref σ a0 7) (Int32.toNatClampNeg (q_int h a0 6)) x1) a0 6)) x2) a0 6)) x3) a0 6)) x4) a0 6)) x5) (q_ref σ a0 12) (Int32.toNatClampNeg (q_int (q_si (q_si (q_si (q_si (q_si h (q_ref σ a0 7) (Int32.toNatClampNeg (q_int h a0 6)) x1) (q_ref σ a0 8) (Int32.toNatClampNeg (q_int (q_si h (q_ref σ a0 7) (Int32.toNatClampNeg (q_int h a0 6)) x1) a0 6)) x2) (q_ref σ a0 9) (Int32.toNatClampNeg (q_int (q_si (q_si h (q_ref σ a0 7) (Int32.toNatClampNeg (q_int h a0 6)) x1) (q_ref σ a0 8) (Int32.toNatClampNeg (q_int (q_si h (q_ref σ a0 7) (Int32.toNatClampNeg (q_int h a0 6)) x1) a0 6)) x2) a0 6)) x3) (q_ref σ a0 10) (Int32.toNatClampNeg (q_int (q_si (q_si (q_si h (q_ref σ a0 7) (Int32.toNatClampNeg (q_int h a0 6)) x1) (q_ref σ a0 8) (Int32.toNatClampNeg (q_int (q_si h (q_ref σ a0 7) (Int32.toNatClampNeg (q_int h a0 6)) x1) a0 6)) x2) (q_ref σ a0 9) (Int32.toNatClampNeg (q_int (q_si (q_si h (q_ref σ a0 7) (Int32.toNatClampNeg (q_int h a0 6)) x1) (q_ref σ a0 8) (Int32.toNatClampNeg (q_int (q_si h (q_ref σ a0 7) (Int32.toNatClampNeg (q_int h a0 6)) x1) a0 6)) x2) a0 6)) x3) a0 6)) x4) (q_ref σ a0 11) (Int32.toNatClampNeg (q_int (q_si (q_si (q_si (q_si h (q_ref σ a0 7) (Int32.toNatClampNeg (q_int h a0 6)) x1) (q_ref σ a0 8) (Int32.toNatClampNeg (q_int (q_si h (q_ref σ a0 7) (Int32.toNatClampNeg (q_int h a0 6)) x1) a0 6)) x2) (q_ref σ a0 9) (Int32.toNatClampNeg (q_int (q_si (q_si h (q_ref σ a0 7) (Int32.toNatClampNeg (q_int h a0 6)) x1) (q_ref σ a0 8) (Int32.toNatClampNeg (q_int (q_si h (q_ref σ a0 7) (Int32.toNatClampNeg (q_int h a0 6)) x1) a0 6)) x2) a0 6)) x3) (q_ref σ a0 10) (Int32.toNatClampNeg (q_int (q_si (q_si (q_si h (q_ref σ a0 7) (Int32.toNatClampNeg (q_int h a0 6)) x1) (q_ref σ a0 8) (Int32.toNatClampNeg (q_int (q_si h (q_ref σ a0 7) (Int32.toNatClampNeg (q_int h a0 6)) x1) a0 6)) x2) (q_ref σ a0 9) (Int32.toNatClampNeg (q_int (q_si (q_si h (q_ref σ a0 7) (Int32.toNatClampNeg (q_int h a0 6)) x1) (q_ref σ a0 8) (Int32.toNatClampNeg (q_int (q_si h (q_ref σ a0 7) (Int32.toNatClampNeg (q_int h a0 6)) x1) a0 6)) x2) a0 6)) x3) a0 6)) x4) a0 6)) x5) a0 6)) (9 : Int32)) a0 6) + (1 : Int32)))))))
noncomputable def fX5_bookingComes_24 (σ : q_St) (h : q_Hp) (a0 : Nat) (x1 : Int32) (x2 : Int32) (x3 : Int32) (x4 : Int32) (x5 : Int32) : Option (Int32 × q_Hp) := fX5_bookingComes_25 σ h a0 x1 x2 x3 x4 x5 (0 : Int32)
noncomputable def fX5_bookingComes (σ : q_St) (h : q_Hp) (a0 : Nat) (x1 : Int32) (x2 : Int32) (x3 : Int32) (x4 : Int32) (x5 : Int32) : Option (Int32 × q_Hp) := q_gu ((q_tag σ (q_ref σ a0 7) = 7) ∧ (q_tag σ (q_ref σ a0 8) = 7) ∧ (q_tag σ (q_ref σ a0 9) = 7) ∧ (q_tag σ (q_ref σ a0 10) = 7) ∧ (q_tag σ (q_ref σ a0 11) = 7) ∧ (q_tag σ (q_ref σ a0 12) = 7)) ((if (20 : Int32) < x1 then fX5_bookingComes_24 σ h a0 x1 x2 x3 x4 x5 else (if (4 : Int32) ≤ x2 then fX5_bookingComes_24 σ h a0 x1 x2 x3 x4 x5 else (if (7 : Int32) ≤ (q_int h a0 6) then fX5_bookingComes_24 σ h a0 x1 x2 x3 x4 x5 else fX5_bookingComes_25 σ h a0 x1 x2 x3 x4 x5 (1 : Int32)))))
def cdX5_bookingComes : q_Cd := [(0, .iload_n 1), (1, .bipush 20), (3, .if_icmp .gt 21), (6, .iload_n 2), (7, .iconst 4), (8, .if_icmp .ge 16), (11, .aload_n 0), (12, .getfield 100), (15, .bipush 7), (17, .if_icmp .ge 7), (20, .iconst 1), (21, .goto 4), (24, .iconst 0), (25, .istore 6), (27, .iload 6), (29, .ifCond .eq 76), (32, .aload_n 0), (33, .getfield 25), (36, .aload_n 0), (37, .getfield 100), (40, .iload_n 1), (41, .iastore), (42, .aload_n 0), (43, .getfield 28), (46, .aload_n 0), (47, .getfield 100), (50, .iload_n 2), (51, .iastore), (52, .aload_n 0), (53, .getfield 31), (56, .aload_n 0), (57, .getfield 100), (60, .iload_n 3), (61, .iastore), (62, .aload_n 0), (63, .getfield 34), (66, .aload_n 0), (67, .getfield 100), (70, .iload 4), (72, .iastore), (73, .aload_n 0), (74, .getfield 37), (77, .aload_n 0), (78, .getfield 100), (81, .iload 5), (83, .iastore), (84, .aload_n 0), (85, .getfield 40), (88, .aload_n 0), (89, .getfield 100), (92, .bipush 9), (94, .iastore), (95, .aload_n 0), (96, .dup), (97, .getfield 100), (100, .iconst 1), (101, .iadd), (102, .putfield 100), (105, .iload 6), (107, .ireturn)]
set_option maxRecDepth 100000 in
theorem cokX5_bookingComes : q_cok cX5_bookingComes cdX5_bookingComes := by unfold q_cok; decide +kernel
set_option maxRecDepth 100000 in
set_option maxHeartbeats 4000000 in
theorem ctX5_bookingComes {l : Launch} {D : va_G} {cy : Nat → Nat} {b0 : Nat} {σ : q_St} {h : q_Hp} (a0 : Nat) (x1 : Int32) (x2 : Int32) (x3 : Int32) (x4 : Int32) (x5 : Int32) {r : Int32} {h' : q_Hp} (ta0 : q_tag σ a0 = 6) (hf : fX5_bookingComes σ h a0 x1 x2 x3 x4 x5 = some (r, h')) : q_M l yX5_bookingComes cX5_bookingComes 7 (some .boolean) 0 0 0 0 D cy b0 σ h [.ref a0, .int x1, .int x2, .int x3, .int x4, .int x5] (some (.int r)) σ h' := by
  unfold fX5_bookingComes at hf
  obtain ⟨⟨k0, k1, k2, k3, k4, k5⟩, hf⟩ := q_gu_o hf
  refine q_enter (by decide) (Nat.le_of_ble_eq_true rfl) ?_
  intro p e s m args below meth c C0 hr hlk hnm
  replace C0 : VC p { frames := 0, cells := 0, slots := 0, locals := 0 } s m args meth c D cy b0 7 0 0 RX5 cX5_bookingComes := C0
  have n25 : ∀ (h : q_Hp) (s0 : Int32), fX5_bookingComes_25 σ h a0 x1 x2 x3 x4 x5 s0 = some (r, h') → V p l e { frames := 0, cells := 0, slots := 0, locals := 0 } s m args below meth c (MQ below (q_Qc D cy b0 (some (.int r)) σ h') args s 0 0 (fun q => b0 ≤ q)) D cy b0 7 0 0 0 0 σ h 25 [(0, .ref a0), (1, .int x1), (2, .int x2), (3, .int x3), (4, .int x4), (5, .int x5)] [.int s0] := by
    intro h s0 hf
    unfold fX5_bookingComes_25 at hf
    refine v_run C0 tbX5 cokX5_bookingComes (pc' := 29) (lv' := [(6, .int s0), (0, .ref a0), (1, .int x1), (2, .int x2), (3, .int x3), (4, .int x4), (5, .int x5)]) (st' := [.int s0]) (h' := h) 2 rfl trivial ?_
    refine v_if_eq C0 cokX5_bookingComes rfl 105 (by decide) hf (fun _ hf => ?_) (fun _ hf => ?_)
    · refine v_run C0 tbX5 cokX5_bookingComes (pc' := 107) (lv' := [(6, .int s0), (0, .ref a0), (1, .int x1), (2, .int x2), (3, .int x3), (4, .int x4), (5, .int x5)]) (st' := [.int s0]) (h' := h) 1 rfl trivial ?_
      obtain ⟨g1, hf⟩ := q_gu_o hf
      obtain ⟨rfl, rfl⟩ := Prod.mk.inj (Option.some.inj hf)
      exact v_zret C0 cokX5_bookingComes hr hlk rfl g1
    · obtain ⟨⟨g2, g3, g4, g5, g6, g7⟩, hf⟩ := q_gu_o hf
      refine v_run C0 tbX5 cokX5_bookingComes (pc' := 107) (lv' := [(6, .int s0), (0, .ref a0), (1, .int x1), (2, .int x2), (3, .int x3), (4, .int x4), (5, .int x5)]) (st' := [.int s0]) (h' := (q_si (q_si (q_si (q_si (q_si (q_si (q_si h (q_ref σ a0 7) (Int32.toNatClampNeg (q_int h a0 6)) x1) (q_ref σ a0 8) (Int32.toNatClampNeg (q_int (q_si h (q_ref σ a0 7) (Int32.toNatClampNeg (q_int h a0 6)) x1) a0 6)) x2) (q_ref σ a0 9) (Int32.toNatClampNeg (q_int (q_si (q_si h (q_ref σ a0 7) (Int32.toNatClampNeg (q_int h a0 6)) x1) (q_ref σ a0 8) (Int32.toNatClampNeg (q_int (q_si h (q_ref σ a0 7) (Int32.toNatClampNeg (q_int h a0 6)) x1) a0 6)) x2) a0 6)) x3) (q_ref σ a0 10) (Int32.toNatClampNeg (q_int (q_si (q_si (q_si h (q_ref σ a0 7) (Int32.toNatClampNeg (q_int h a0 6)) x1) (q_ref σ a0 8) (Int32.toNatClampNeg (q_int (q_si h (q_ref σ a0 7) (Int32.toNatClampNeg (q_int h a0 6)) x1) a0 6)) x2) (q_ref σ a0 9) (Int32.toNatClampNeg (q_int (q_si (q_si h (q_ref σ a0 7) (Int32.toNatClampNeg (q_int h a0 6)) x1) (q_ref σ a0 8) (Int32.toNatClampNeg (q_int (q_si h (q_ref σ a0 7) (Int32.toNatClampNeg (q_int h a0 6)) x1) a0 6)) x2) a0 6)) x3) a0 6)) x4) (q_ref σ a0 11) (Int32.toNatClampNeg (q_int (q_si (q_si (q_si (q_si h (q_ref σ a0 7) (Int32.toNatClampNeg (q_int h a0 6)) x1) (q_ref σ a0 8) (Int32.toNatClampNeg (q_int (q_si h (q_ref σ a0 7) (Int32.toNatClampNeg (q_int h a0 6)) x1) a0 6)) x2) (q_ref σ a0 9) (Int32.toNatClampNeg (q_int (q_si (q_si h (q_ref σ a0 7) (Int32.toNatClampNeg (q_int h a0 6)) x1) (q_ref σ a0 8) (Int32.toNatClampNeg (q_int (q_si h (q_ref σ a0 7) (Int32.toNatClampNeg (q_int h a0 6)) x1) a0 6)) x2) a0 6)) x3) (q_ref σ a0 10) (Int32.toNatClampNeg (q_int (q_si (q_si (q_si h (q_ref σ a0 7) (Int32.toNatClampNeg (q_int h a0 6)) x1) (q_ref σ a0 8) (Int32.toNatClampNeg (q_int (q_si h (q_ref σ a0 7) (Int32.toNatClampNeg (q_int h a0 6)) x1) a0 6)) x2) (q_ref σ a0 9) (Int32.toNatClampNeg (q_int (q_si (q_si h (q_ref σ a0 7) (Int32.toNatClampNeg (q_int h a0 6)) x1) (q_ref σ a0 8) (Int32.toNatClampNeg (q_int (q_si h (q_ref σ a0 7) (Int32.toNatClampNeg (q_int h a0 6)) x1) a0 6)) x2) a0 6)) x3) a0 6)) x4) a0 6)) x5) (q_ref σ a0 12) (Int32.toNatClampNeg (q_int (q_si (q_si (q_si (q_si (q_si h (q_ref σ a0 7) (Int32.toNatClampNeg (q_int h a0 6)) x1) (q_ref σ a0 8) (Int32.toNatClampNeg (q_int (q_si h (q_ref σ a0 7) (Int32.toNatClampNeg (q_int h a0 6)) x1) a0 6)) x2) (q_ref σ a0 9) (Int32.toNatClampNeg (q_int (q_si (q_si h (q_ref σ a0 7) (Int32.toNatClampNeg (q_int h a0 6)) x1) (q_ref σ a0 8) (Int32.toNatClampNeg (q_int (q_si h (q_ref σ a0 7) (Int32.toNatClampNeg (q_int h a0 6)) x1) a0 6)) x2) a0 6)) x3) (q_ref σ a0 10) (Int32.toNatClampNeg (q_int (q_si (q_si (q_si h (q_ref σ a0 7) (Int32.toNatClampNeg (q_int h a0 6)) x1) (q_ref σ a0 8) (Int32.toNatClampNeg (q_int (q_si h (q_ref σ a0 7) (Int32.toNatClampNeg (q_int h a0 6)) x1) a0 6)) x2) (q_ref σ a0 9) (Int32.toNatClampNeg (q_int (q_si (q_si h (q_ref σ a0 7) (Int32.toNatClampNeg (q_int h a0 6)) x1) (q_ref σ a0 8) (Int32.toNatClampNeg (q_int (q_si h (q_ref σ a0 7) (Int32.toNatClampNeg (q_int h a0 6)) x1) a0 6)) x2) a0 6)) x3) a0 6)) x4) (q_ref σ a0 11) (Int32.toNatClampNeg (q_int (q_si (q_si (q_si (q_si h (q_ref σ a0 7) (Int32.toNatClampNeg (q_int h a0 6)) x1) (q_ref σ a0 8) (Int32.toNatClampNeg (q_int (q_si h (q_ref σ a0 7) (Int32.toNatClampNeg (q_int h a0 6)) x1) a0 6)) x2) (q_ref σ a0 9) (Int32.toNatClampNeg (q_int (q_si (q_si h (q_ref σ a0 7) (Int32.toNatClampNeg (q_int h a0 6)) x1) (q_ref σ a0 8) (Int32.toNatClampNeg (q_int (q_si h (q_ref σ a0 7) (Int32.toNatClampNeg (q_int h a0 6)) x1) a0 6)) x2) a0 6)) x3) (q_ref σ a0 10) (Int32.toNatClampNeg (q_int (q_si (q_si (q_si h (q_ref σ a0 7) (Int32.toNatClampNeg (q_int h a0 6)) x1) (q_ref σ a0 8) (Int32.toNatClampNeg (q_int (q_si h (q_ref σ a0 7) (Int32.toNatClampNeg (q_int h a0 6)) x1) a0 6)) x2) (q_ref σ a0 9) (Int32.toNatClampNeg (q_int (q_si (q_si h (q_ref σ a0 7) (Int32.toNatClampNeg (q_int h a0 6)) x1) (q_ref σ a0 8) (Int32.toNatClampNeg (q_int (q_si h (q_ref σ a0 7) (Int32.toNatClampNeg (q_int h a0 6)) x1) a0 6)) x2) a0 6)) x3) a0 6)) x4) a0 6)) x5) a0 6)) (9 : Int32)) a0 6 ((q_int (q_si (q_si (q_si (q_si (q_si (q_si h (q_ref σ a0 7) (Int32.toNatClampNeg (q_int h a0 6)) x1) (q_ref σ a0 8) (Int32.toNatClampNeg (q_int (q_si h (q_ref σ a0 7) (Int32.toNatClampNeg (q_int h a0 6)) x1) a0 6)) x2) (q_ref σ a0 9) (Int32.toNatClampNeg (q_int (q_si (q_si h (q_ref σ a0 7) (Int32.toNatClampNeg (q_int h a0 6)) x1) (q_ref σ a0 8) (Int32.toNatClampNeg (q_int (q_si h (q_ref σ a0 7) (Int32.toNatClampNeg (q_int h a0 6)) x1) a0 6)) x2) a0 6)) x3) (q_ref σ a0 10) (Int32.toNatClampNeg (q_int (q_si (q_si (q_si h (q_ref σ a0 7) (Int32.toNatClampNeg (q_int h a0 6)) x1) (q_ref σ a0 8) (Int32.toNatClampNeg (q_int (q_si h (q_ref σ a0 7) (Int32.toNatClampNeg (q_int h a0 6)) x1) a0 6)) x2) (q_ref σ a0 9) (Int32.toNatClampNeg (q_int (q_si (q_si h (q_ref σ a0 7) (Int32.toNatClampNeg (q_int h a0 6)) x1) (q_ref σ a0 8) (Int32.toNatClampNeg (q_int (q_si h (q_ref σ a0 7) (Int32.toNatClampNeg (q_int h a0 6)) x1) a0 6)) x2) a0 6)) x3) a0 6)) x4) (q_ref σ a0 11) (Int32.toNatClampNeg (q_int (q_si (q_si (q_si (q_si h (q_ref σ a0 7) (Int32.toNatClampNeg (q_int h a0 6)) x1) (q_ref σ a0 8) (Int32.toNatClampNeg (q_int (q_si h (q_ref σ a0 7) (Int32.toNatClampNeg (q_int h a0 6)) x1) a0 6)) x2) (q_ref σ a0 9) (Int32.toNatClampNeg (q_int (q_si (q_si h (q_ref σ a0 7) (Int32.toNatClampNeg (q_int h a0 6)) x1) (q_ref σ a0 8) (Int32.toNatClampNeg (q_int (q_si h (q_ref σ a0 7) (Int32.toNatClampNeg (q_int h a0 6)) x1) a0 6)) x2) a0 6)) x3) (q_ref σ a0 10) (Int32.toNatClampNeg (q_int (q_si (q_si (q_si h (q_ref σ a0 7) (Int32.toNatClampNeg (q_int h a0 6)) x1) (q_ref σ a0 8) (Int32.toNatClampNeg (q_int (q_si h (q_ref σ a0 7) (Int32.toNatClampNeg (q_int h a0 6)) x1) a0 6)) x2) (q_ref σ a0 9) (Int32.toNatClampNeg (q_int (q_si (q_si h (q_ref σ a0 7) (Int32.toNatClampNeg (q_int h a0 6)) x1) (q_ref σ a0 8) (Int32.toNatClampNeg (q_int (q_si h (q_ref σ a0 7) (Int32.toNatClampNeg (q_int h a0 6)) x1) a0 6)) x2) a0 6)) x3) a0 6)) x4) a0 6)) x5) (q_ref σ a0 12) (Int32.toNatClampNeg (q_int (q_si (q_si (q_si (q_si (q_si h (q_ref σ a0 7) (Int32.toNatClampNeg (q_int h a0 6)) x1) (q_ref σ a0 8) (Int32.toNatClampNeg (q_int (q_si h (q_ref σ a0 7) (Int32.toNatClampNeg (q_int h a0 6)) x1) a0 6)) x2) (q_ref σ a0 9) (Int32.toNatClampNeg (q_int (q_si (q_si h (q_ref σ a0 7) (Int32.toNatClampNeg (q_int h a0 6)) x1) (q_ref σ a0 8) (Int32.toNatClampNeg (q_int (q_si h (q_ref σ a0 7) (Int32.toNatClampNeg (q_int h a0 6)) x1) a0 6)) x2) a0 6)) x3) (q_ref σ a0 10) (Int32.toNatClampNeg (q_int (q_si (q_si (q_si h (q_ref σ a0 7) (Int32.toNatClampNeg (q_int h a0 6)) x1) (q_ref σ a0 8) (Int32.toNatClampNeg (q_int (q_si h (q_ref σ a0 7) (Int32.toNatClampNeg (q_int h a0 6)) x1) a0 6)) x2) (q_ref σ a0 9) (Int32.toNatClampNeg (q_int (q_si (q_si h (q_ref σ a0 7) (Int32.toNatClampNeg (q_int h a0 6)) x1) (q_ref σ a0 8) (Int32.toNatClampNeg (q_int (q_si h (q_ref σ a0 7) (Int32.toNatClampNeg (q_int h a0 6)) x1) a0 6)) x2) a0 6)) x3) a0 6)) x4) (q_ref σ a0 11) (Int32.toNatClampNeg (q_int (q_si (q_si (q_si (q_si h (q_ref σ a0 7) (Int32.toNatClampNeg (q_int h a0 6)) x1) (q_ref σ a0 8) (Int32.toNatClampNeg (q_int (q_si h (q_ref σ a0 7) (Int32.toNatClampNeg (q_int h a0 6)) x1) a0 6)) x2) (q_ref σ a0 9) (Int32.toNatClampNeg (q_int (q_si (q_si h (q_ref σ a0 7) (Int32.toNatClampNeg (q_int h a0 6)) x1) (q_ref σ a0 8) (Int32.toNatClampNeg (q_int (q_si h (q_ref σ a0 7) (Int32.toNatClampNeg (q_int h a0 6)) x1) a0 6)) x2) a0 6)) x3) (q_ref σ a0 10) (Int32.toNatClampNeg (q_int (q_si (q_si (q_si h (q_ref σ a0 7) (Int32.toNatClampNeg (q_int h a0 6)) x1) (q_ref σ a0 8) (Int32.toNatClampNeg (q_int (q_si h (q_ref σ a0 7) (Int32.toNatClampNeg (q_int h a0 6)) x1) a0 6)) x2) (q_ref σ a0 9) (Int32.toNatClampNeg (q_int (q_si (q_si h (q_ref σ a0 7) (Int32.toNatClampNeg (q_int h a0 6)) x1) (q_ref σ a0 8) (Int32.toNatClampNeg (q_int (q_si h (q_ref σ a0 7) (Int32.toNatClampNeg (q_int h a0 6)) x1) a0 6)) x2) a0 6)) x3) a0 6)) x4) a0 6)) x5) a0 6)) (9 : Int32)) a0 6) + (1 : Int32)))) 43 rfl ⟨⟨ta0, q_tn k0⟩, ta0, ⟨k0, g2⟩, ⟨ta0, q_tn k1⟩, ta0, ⟨k1, g3⟩, ⟨ta0, q_tn k2⟩, ta0, ⟨k2, g4⟩, ⟨ta0, q_tn k3⟩, ta0, ⟨k3, g5⟩, ⟨ta0, q_tn k4⟩, ta0, ⟨k4, g6⟩, ⟨ta0, q_tn k5⟩, ta0, ⟨k5, g7⟩, ta0, ta0, trivial⟩ ?_
      obtain ⟨g8, hf⟩ := q_gu_o hf
      obtain ⟨rfl, rfl⟩ := Prod.mk.inj (Option.some.inj hf)
      exact v_zret C0 cokX5_bookingComes hr hlk rfl g8
  have n24 : ∀ (h : q_Hp), fX5_bookingComes_24 σ h a0 x1 x2 x3 x4 x5 = some (r, h') → V p l e { frames := 0, cells := 0, slots := 0, locals := 0 } s m args below meth c (MQ below (q_Qc D cy b0 (some (.int r)) σ h') args s 0 0 (fun q => b0 ≤ q)) D cy b0 7 0 0 0 0 σ h 24 [(0, .ref a0), (1, .int x1), (2, .int x2), (3, .int x3), (4, .int x4), (5, .int x5)] [] := by
    intro h hf
    unfold fX5_bookingComes_24 at hf
    refine v_run C0 tbX5 cokX5_bookingComes (pc' := 25) (lv' := [(0, .ref a0), (1, .int x1), (2, .int x2), (3, .int x3), (4, .int x4), (5, .int x5)]) (st' := [.int (0 : Int32)]) (h' := h) 1 rfl trivial ?_
    refine v_pick [0, 1, 2, 3, 4, 5] rfl ?_
    exact n25 h (0 : Int32) hf
  refine v_run C0 tbX5 cokX5_bookingComes (pc' := 3) (lv' := [(0, .ref a0), (1, .int x1), (2, .int x2), (3, .int x3), (4, .int x4), (5, .int x5)]) (st' := [.int (20 : Int32), .int x1]) (h' := h) 2 rfl trivial ?_
  refine v_icmp_gt C0 cokX5_bookingComes rfl 24 (by decide) hf (fun _ hf => ?_) (fun _ hf => ?_)
  · refine v_pick [0, 1, 2, 3, 4, 5] rfl ?_
    exact n24 h hf
  · refine v_run C0 tbX5 cokX5_bookingComes (pc' := 8) (lv' := [(0, .ref a0), (1, .int x1), (2, .int x2), (3, .int x3), (4, .int x4), (5, .int x5)]) (st' := [.int (4 : Int32), .int x2]) (h' := h) 2 rfl trivial ?_
    refine v_icmp_ge C0 cokX5_bookingComes rfl 24 (by decide) hf (fun _ hf => ?_) (fun _ hf => ?_)
    · refine v_pick [0, 1, 2, 3, 4, 5] rfl ?_
      exact n24 h hf
    · refine v_run C0 tbX5 cokX5_bookingComes (pc' := 17) (lv' := [(0, .ref a0), (1, .int x1), (2, .int x2), (3, .int x3), (4, .int x4), (5, .int x5)]) (st' := [.int (7 : Int32), .int (q_int h a0 6)]) (h' := h) 3 rfl ⟨ta0, trivial⟩ ?_
      refine v_icmp_ge C0 cokX5_bookingComes rfl 24 (by decide) hf (fun _ hf => ?_) (fun _ hf => ?_)
      · refine v_pick [0, 1, 2, 3, 4, 5] rfl ?_
        exact n24 h hf
      · refine v_run C0 tbX5 cokX5_bookingComes (pc' := 25) (lv' := [(0, .ref a0), (1, .int x1), (2, .int x2), (3, .int x3), (4, .int x4), (5, .int x5)]) (st' := [.int (1 : Int32)]) (h' := h) 2 rfl trivial ?_
        refine v_pick [0, 1, 2, 3, 4, 5] rfl ?_
        exact n25 h (1 : Int32) hf
-- BackByNoonOnMondayModel.comesTold(I)Z
noncomputable def fX5_comesTold_160 (σ : q_St) (h : q_Hp) (a0 : Nat) (x1 : Int32) (x3 : Int32) (x4 : Int32) (s0 : Int32) : Option (Int32 × q_Hp) := (if s0 = 0 then q_gu ((s0 = 0 ∨ s0 = 1)) (some (s0, h)) else ((fX5_hire σ h a0 x3 x4).bind fun h25 => q_gu ((s0 = 0 ∨ s0 = 1)) (some (s0, h25))))
noncomputable def fX5_comesTold_159 (σ : q_St) (h : q_Hp) (a0 : Nat) (x1 : Int32) (x3 : Int32) (x4 : Int32) : Option (Int32 × q_Hp) := fX5_comesTold_160 σ h a0 x1 x3 x4 (0 : Int32)
noncomputable def fX5_comesTold_200 (σ : q_St) (h : q_Hp) (a0 : Nat) (x1 : Int32) (x3 : Int32) (s0 : Int32) : Option (Int32 × q_Hp) := (if s0 = 0 then q_gu ((s0 = 0 ∨ s0 = 1)) (some (s0, h)) else ((fX5_comeBack σ h a0 x3).bind fun h31 => q_gu ((s0 = 0 ∨ s0 = 1)) (some (s0, h31))))
noncomputable def fX5_comesTold_199 (σ : q_St) (h : q_Hp) (a0 : Nat) (x1 : Int32) (x3 : Int32) : Option (Int32 × q_Hp) := fX5_comesTold_200 σ h a0 x1 x3 (0 : Int32)
noncomputable def fX5_comesTold_236 (σ : q_St) (h : q_Hp) (a0 : Nat) (x1 : Int32) (x3 : Int32) (s0 : Int32) : Option (Int32 × q_Hp) := (if s0 = 0 then q_gu ((s0 = 0 ∨ s0 = 1)) (some (s0, h)) else ((fX5_clean σ h a0 x3).bind fun h28 => q_gu ((s0 = 0 ∨ s0 = 1)) (some (s0, h28))))
noncomputable def fX5_comesTold_235 (σ : q_St) (h : q_Hp) (a0 : Nat) (x1 : Int32) (x3 : Int32) : Option (Int32 × q_Hp) := fX5_comesTold_236 σ h a0 x1 x3 (0 : Int32)
noncomputable def fX5_comesTold (σ : q_St) (h : q_Hp) (a0 : Nat) (x1 : Int32) : Option (Int32 × q_Hp) := q_gu ((q_tag σ (q_ref σ a0 28) = 7) ∧ (q_tag σ (q_ref σ a0 27) = 7) ∧ (q_tag σ (q_ref σ a0 5) = 7)) (q_gu ((vp_in ((5 : Int32) * x1) (q_len σ (q_ref σ a0 28))) ∧ (vp_in (((5 : Int32) * x1) + (1 : Int32)) (q_len σ (q_ref σ a0 28))) ∧ (vp_in x1 (q_len σ (q_ref σ a0 27)))) ((if (q_int h (q_ref σ a0 27) (Int32.toNatClampNeg x1)) = (98 : Int32) then q_gu ((vp_in (((5 : Int32) * x1) + (2 : Int32)) (q_len σ (q_ref σ a0 28))) ∧ (vp_in (((5 : Int32) * x1) + (3 : Int32)) (q_len σ (q_ref σ a0 28))) ∧ (vp_in (((5 : Int32) * x1) + (4 : Int32)) (q_len σ (q_ref σ a0 28)))) ((q_b2 (fX5_bookingComes σ h a0 (q_int h (q_ref σ a0 28) (Int32.toNatClampNeg ((5 : Int32) * x1))) (q_int h (q_ref σ a0 28) (Int32.toNatClampNeg (((5 : Int32) * x1) + (1 : Int32)))) (q_int h (q_ref σ a0 28) (Int32.toNatClampNeg (((5 : Int32) * x1) + (2 : Int32)))) (q_int h (q_ref σ a0 28) (Int32.toNatClampNeg (((5 : Int32) * x1) + (3 : Int32)))) (q_int h (q_ref σ a0 28) (Int32.toNatClampNeg (((5 : Int32) * x1) + (4 : Int32))))) fun r7 h7 => q_gu ((r7 = 0 ∨ r7 = 1)) (some (r7, h7)))) else (if (q_int h (q_ref σ a0 27) (Int32.toNatClampNeg x1)) = (104 : Int32) then ((fX5_isSuit σ h a0 (q_int h (q_ref σ a0 28) (Int32.toNatClampNeg ((5 : Int32) * x1)))).bind fun r10 => (if r10 = 0 then fX5_comesTold_159 σ h a0 x1 (q_int h (q_ref σ a0 28) (Int32.toNatClampNeg ((5 : Int32) * x1))) (q_int h (q_ref σ a0 28) (Int32.toNatClampNeg (((5 : Int32) * x1) + (1 : Int32)))) else ((fX5_isBooking σ h a0 (q_int h (q_ref σ a0 28) (Int32.toNatClampNeg (((5 : Int32) * x1) + (1 : Int32))))).bind fun r11 => (if r11 = 0 then fX5_comesTold_159 σ h a0 x1 (q_int h (q_ref σ a0 28) (Int32.toNatClampNeg ((5 : Int32) * x1))) (q_int h (q_ref σ a0 28) (Int32.toNatClampNeg (((5 : Int32) * x1) + (1 : Int32)))) else ((fX5_canHire σ h a0 (q_int h (q_ref σ a0 28) (Int32.toNatClampNeg ((5 : Int32) * x1))) (q_int h (q_ref σ a0 28) (Int32.toNatClampNeg (((5 : Int32) * x1) + (1 : Int32))))).bind fun r12 => (if r12 = 0 then fX5_comesTold_159 σ h a0 x1 (q_int h (q_ref σ a0 28) (Int32.toNatClampNeg ((5 : Int32) * x1))) (q_int h (q_ref σ a0 28) (Int32.toNatClampNeg (((5 : Int32) * x1) + (1 : Int32)))) else fX5_comesTold_160 σ h a0 x1 (q_int h (q_ref σ a0 28) (Int32.toNatClampNeg ((5 : Int32) * x1))) (q_int h (q_ref σ a0 28) (Int32.toNatClampNeg (((5 : Int32) * x1) + (1 : Int32)))) (1 : Int32))))))) else (if (q_int h (q_ref σ a0 27) (Int32.toNatClampNeg x1)) = (114 : Int32) then ((fX5_isSuit σ h a0 (q_int h (q_ref σ a0 28) (Int32.toNatClampNeg ((5 : Int32) * x1)))).bind fun r14 => (if r14 = 0 then fX5_comesTold_199 σ h a0 x1 (q_int h (q_ref σ a0 28) (Int32.toNatClampNeg ((5 : Int32) * x1))) else q_gu ((vp_in (q_int h (q_ref σ a0 28) (Int32.toNatClampNeg ((5 : Int32) * x1))) (q_len σ (q_ref σ a0 5)))) ((if (q_int h (q_ref σ a0 5) (Int32.toNatClampNeg (q_int h (q_ref σ a0 28) (Int32.toNatClampNeg ((5 : Int32) * x1))))) = (1 : Int32) then fX5_comesTold_200 σ h a0 x1 (q_int h (q_ref σ a0 28) (Int32.toNatClampNeg ((5 : Int32) * x1))) (1 : Int32) else fX5_comesTold_199 σ h a0 x1 (q_int h (q_ref σ a0 28) (Int32.toNatClampNeg ((5 : Int32) * x1))))))) else (if (q_int h (q_ref σ a0 27) (Int32.toNatClampNeg x1)) = (115 : Int32) then q_gu ((vp_in (((5 : Int32) * x1) + (2 : Int32)) (q_len σ (q_ref σ a0 28))) ∧ (vp_in (((5 : Int32) * x1) + (3 : Int32)) (q_len σ (q_ref σ a0 28)))) ((q_b2 (fX5_suitComes σ h a0 (q_int h (q_ref σ a0 28) (Int32.toNatClampNeg ((5 : Int32) * x1))) (q_int h (q_ref σ a0 28) (Int32.toNatClampNeg (((5 : Int32) * x1) + (1 : Int32)))) (q_int h (q_ref σ a0 28) (Int32.toNatClampNeg (((5 : Int32) * x1) + (2 : Int32)))) (q_int h (q_ref σ a0 28) (Int32.toNatClampNeg (((5 : Int32) * x1) + (3 : Int32))))) fun r19 h19 => q_gu ((r19 = 0 ∨ r19 = 1)) (some (r19, h19)))) else ((fX5_isSuit σ h a0 (q_int h (q_ref σ a0 28) (Int32.toNatClampNeg ((5 : Int32) * x1)))).bind fun r22 => (if r22 = 0 then fX5_comesTold_235 σ h a0 x1 (q_int h (q_ref σ a0 28) (Int32.toNatClampNeg ((5 : Int32) * x1))) else ((fX5_canClean σ h a0 (q_int h (q_ref σ a0 28) (Int32.toNatClampNeg ((5 : Int32) * x1)))).bind fun r23 => (if r23 = 0 then fX5_comesTold_235 σ h a0 x1 (q_int h (q_ref σ a0 28) (Int32.toNatClampNeg ((5 : Int32) * x1))) else fX5_comesTold_236 σ h a0 x1 (q_int h (q_ref σ a0 28) (Int32.toNatClampNeg ((5 : Int32) * x1))) (1 : Int32)))))))))))
def cdX5_comesTold : q_Cd := [(0, .iconst 5), (1, .iload_n 1), (2, .imul), (3, .istore_n 2), (4, .aload_n 0), (5, .getfield 68), (8, .iload_n 2), (9, .iaload), (10, .istore_n 3), (11, .aload_n 0), (12, .getfield 68), (15, .iload_n 2), (16, .iconst 1), (17, .iadd), (18, .iaload), (19, .istore 4), (21, .iconst 1), (22, .istore 5), (24, .aload_n 0), (25, .getfield 65), (28, .iload_n 1), (29, .iaload), (72, .aload_n 0), (73, .iload_n 3), (74, .iload 4), (76, .aload_n 0), (77, .getfield 68), (80, .iload_n 2), (81, .iconst 2), (82, .iadd), (83, .iaload), (84, .aload_n 0), (85, .getfield 68), (88, .iload_n 2), (89, .iconst 3), (90, .iadd), (91, .iaload), (92, .invokevirtual 161), (95, .ireturn), (96, .aload_n 0), (97, .iload_n 3), (98, .iload 4), (100, .aload_n 0), (101, .getfield 68), (104, .iload_n 2), (105, .iconst 2), (106, .iadd), (107, .iaload), (108, .aload_n 0), (109, .getfield 68), (112, .iload_n 2), (113, .iconst 3), (114, .iadd), (115, .iaload), (116, .aload_n 0), (117, .getfield 68), (120, .iload_n 2), (121, .iconst 4), (122, .iadd), (123, .iaload), (124, .invokevirtual 165), (127, .ireturn), (128, .aload_n 0), (129, .iload_n 3), (130, .invokevirtual 169), (133, .ifCond .eq 26), (136, .aload_n 0), (137, .iload 4), (139, .invokevirtual 173), (142, .ifCond .eq 17), (145, .aload_n 0), (146, .iload_n 3), (147, .iload 4), (149, .invokevirtual 176), (152, .ifCond .eq 7), (155, .iconst 1), (156, .goto 4), (159, .iconst 0), (160, .istore 5), (162, .iload 5), (164, .ifCond .eq 10), (167, .aload_n 0), (168, .iload_n 3), (169, .iload 4), (171, .invokevirtual 179), (174, .iload 5), (176, .ireturn), (177, .aload_n 0), (178, .iload_n 3), (179, .invokevirtual 169), (182, .ifCond .eq 17), (185, .aload_n 0), (186, .getfield 22), (189, .iload_n 3), (190, .iaload), (191, .iconst 1), (192, .if_icmp .ne 7), (195, .iconst 1), (196, .goto 4), (199, .iconst 0), (200, .istore 5), (202, .iload 5), (204, .ifCond .eq 8), (207, .aload_n 0), (208, .iload_n 3), (209, .invokevirtual 182), (212, .iload 5), (214, .ireturn), (215, .aload_n 0), (216, .iload_n 3), (217, .invokevirtual 169), (220, .ifCond .eq 15), (223, .aload_n 0), (224, .iload_n 3), (225, .invokevirtual 186), (228, .ifCond .eq 7), (231, .iconst 1), (232, .goto 4), (235, .iconst 0), (236, .istore 5), (238, .iload 5), (240, .ifCond .eq 8), (243, .aload_n 0), (244, .iload_n 3), (245, .invokevirtual 189), (248, .iload 5), (250, .ireturn)]
set_option maxRecDepth 100000 in
theorem cokX5_comesTold : q_cok cX5_comesTold cdX5_comesTold := by unfold q_cok; decide +kernel
theorem dswX5_comesTold_30 : decode cX5_comesTold 30 = .ok (.lookupswitch 185 #[(98, 66), (104, 98), (114, 147), (115, 42)], 42) := by decide +kernel
set_option maxRecDepth 100000 in
set_option maxHeartbeats 4000000 in
theorem ctX5_comesTold {l : Launch} {D : va_G} {cy : Nat → Nat} {b0 : Nat} {σ : q_St} {h : q_Hp} (a0 : Nat) (x1 : Int32) {r : Int32} {h' : q_Hp} (ta0 : q_tag σ a0 = 6) (hf : fX5_comesTold σ h a0 x1 = some (r, h')) : q_M l yX5_comesTold cX5_comesTold 6 (some .boolean) 3 65 0 0 D cy b0 σ h [.ref a0, .int x1] (some (.int r)) σ h' := by
  unfold fX5_comesTold at hf
  obtain ⟨⟨k0, k1, k2⟩, hf⟩ := q_gu_o hf
  refine q_enter (by decide) (Nat.le_of_ble_eq_true rfl) ?_
  intro p e s m args below meth c C0 hr hlk hnm
  replace C0 : VC p { frames := 3, cells := 0, slots := 0, locals := 65 } s m args meth c D cy b0 6 0 0 RX5 cX5_comesTold := C0
  have n160 : ∀ (h : q_Hp) (x3 : Int32) (x4 : Int32) (s0 : Int32), fX5_comesTold_160 σ h a0 x1 x3 x4 s0 = some (r, h') → V p l e { frames := 3, cells := 0, slots := 0, locals := 65 } s m args below meth c (MQ below (q_Qc D cy b0 (some (.int r)) σ h') args s 0 0 (fun q => b0 ≤ q)) D cy b0 6 0 0 0 0 σ h 160 [(0, .ref a0), (3, .int x3), (4, .int x4)] [.int s0] := by
    intro h x3 x4 s0 hf
    unfold fX5_comesTold_160 at hf
    refine v_run C0 tbX5 cokX5_comesTold (pc' := 164) (lv' := [(5, .int s0), (0, .ref a0), (3, .int x3), (4, .int x4)]) (st' := [.int s0]) (h' := h) 2 rfl trivial ?_
    refine v_if_eq C0 cokX5_comesTold rfl 174 (by decide) hf (fun _ hf => ?_) (fun _ hf => ?_)
    · refine v_run C0 tbX5 cokX5_comesTold (pc' := 176) (lv' := [(5, .int s0), (0, .ref a0), (3, .int x3), (4, .int x4)]) (st' := [.int s0]) (h' := h) 1 rfl trivial ?_
      obtain ⟨g24, hf⟩ := q_gu_o hf
      obtain ⟨rfl, rfl⟩ := Prod.mk.inj (Option.some.inj hf)
      exact v_zret C0 cokX5_comesTold hr hlk rfl g24
    · refine v_run C0 tbX5 cokX5_comesTold (pc' := 171) (lv' := [(5, .int s0), (0, .ref a0), (3, .int x3), (4, .int x4)]) (st' := [.int x4, .int x3, .ref a0]) (h' := h) 3 rfl trivial ?_
      obtain ⟨h25, e25, hf⟩ := q_bd hf
      refine v_callV C0 cokX5_comesTold rfl (rest := []) (ctX5_hire a0 x3 x4 ta0 e25) calX5_hire lkX5_179 inX5_hire dnX5_hire (ci := 5) ⟨rfl, by decide⟩ ta0 rfl rfl ⟨by decide, by decide⟩ (Nat.le_of_ble_eq_true rfl) (Nat.le_refl _) (Nat.le_refl _) ?_
      refine v_run C0 tbX5 cokX5_comesTold (pc' := 176) (lv' := [(5, .int s0), (0, .ref a0), (3, .int x3), (4, .int x4)]) (st' := [.int s0]) (h' := h25) 1 rfl trivial ?_
      obtain ⟨g26, hf⟩ := q_gu_o hf
      obtain ⟨rfl, rfl⟩ := Prod.mk.inj (Option.some.inj hf)
      exact v_zret C0 cokX5_comesTold hr hlk rfl g26
  have n159 : ∀ (h : q_Hp) (x3 : Int32) (x4 : Int32), fX5_comesTold_159 σ h a0 x1 x3 x4 = some (r, h') → V p l e { frames := 3, cells := 0, slots := 0, locals := 65 } s m args below meth c (MQ below (q_Qc D cy b0 (some (.int r)) σ h') args s 0 0 (fun q => b0 ≤ q)) D cy b0 6 0 0 0 0 σ h 159 [(0, .ref a0), (3, .int x3), (4, .int x4)] [] := by
    intro h x3 x4 hf
    unfold fX5_comesTold_159 at hf
    refine v_run C0 tbX5 cokX5_comesTold (pc' := 160) (lv' := [(0, .ref a0), (3, .int x3), (4, .int x4)]) (st' := [.int (0 : Int32)]) (h' := h) 1 rfl trivial ?_
    refine v_pick [0, 1, 2] rfl ?_
    exact n160 h x3 x4 (0 : Int32) hf
  have n200 : ∀ (h : q_Hp) (x3 : Int32) (s0 : Int32), fX5_comesTold_200 σ h a0 x1 x3 s0 = some (r, h') → V p l e { frames := 3, cells := 0, slots := 0, locals := 65 } s m args below meth c (MQ below (q_Qc D cy b0 (some (.int r)) σ h') args s 0 0 (fun q => b0 ≤ q)) D cy b0 6 0 0 0 0 σ h 200 [(0, .ref a0), (3, .int x3)] [.int s0] := by
    intro h x3 s0 hf
    unfold fX5_comesTold_200 at hf
    refine v_run C0 tbX5 cokX5_comesTold (pc' := 204) (lv' := [(5, .int s0), (0, .ref a0), (3, .int x3)]) (st' := [.int s0]) (h' := h) 2 rfl trivial ?_
    refine v_if_eq C0 cokX5_comesTold rfl 212 (by decide) hf (fun _ hf => ?_) (fun _ hf => ?_)
    · refine v_run C0 tbX5 cokX5_comesTold (pc' := 214) (lv' := [(5, .int s0), (0, .ref a0), (3, .int x3)]) (st' := [.int s0]) (h' := h) 1 rfl trivial ?_
      obtain ⟨g30, hf⟩ := q_gu_o hf
      obtain ⟨rfl, rfl⟩ := Prod.mk.inj (Option.some.inj hf)
      exact v_zret C0 cokX5_comesTold hr hlk rfl g30
    · refine v_run C0 tbX5 cokX5_comesTold (pc' := 209) (lv' := [(5, .int s0), (0, .ref a0), (3, .int x3)]) (st' := [.int x3, .ref a0]) (h' := h) 2 rfl trivial ?_
      obtain ⟨h31, e31, hf⟩ := q_bd hf
      refine v_callV C0 cokX5_comesTold rfl (rest := []) (ctX5_comeBack a0 x3 ta0 e31) calX5_comeBack lkX5_182 inX5_comeBack dnX5_comeBack (ci := 5) ⟨rfl, by decide⟩ ta0 rfl rfl ⟨by decide, by decide⟩ (Nat.le_of_ble_eq_true rfl) (Nat.le_refl _) (Nat.le_refl _) ?_
      refine v_run C0 tbX5 cokX5_comesTold (pc' := 214) (lv' := [(5, .int s0), (0, .ref a0), (3, .int x3)]) (st' := [.int s0]) (h' := h31) 1 rfl trivial ?_
      obtain ⟨g32, hf⟩ := q_gu_o hf
      obtain ⟨rfl, rfl⟩ := Prod.mk.inj (Option.some.inj hf)
      exact v_zret C0 cokX5_comesTold hr hlk rfl g32
  have n199 : ∀ (h : q_Hp) (x3 : Int32), fX5_comesTold_199 σ h a0 x1 x3 = some (r, h') → V p l e { frames := 3, cells := 0, slots := 0, locals := 65 } s m args below meth c (MQ below (q_Qc D cy b0 (some (.int r)) σ h') args s 0 0 (fun q => b0 ≤ q)) D cy b0 6 0 0 0 0 σ h 199 [(0, .ref a0), (3, .int x3)] [] := by
    intro h x3 hf
    unfold fX5_comesTold_199 at hf
    refine v_run C0 tbX5 cokX5_comesTold (pc' := 200) (lv' := [(0, .ref a0), (3, .int x3)]) (st' := [.int (0 : Int32)]) (h' := h) 1 rfl trivial ?_
    refine v_pick [0, 1] rfl ?_
    exact n200 h x3 (0 : Int32) hf
  have n236 : ∀ (h : q_Hp) (x3 : Int32) (s0 : Int32), fX5_comesTold_236 σ h a0 x1 x3 s0 = some (r, h') → V p l e { frames := 3, cells := 0, slots := 0, locals := 65 } s m args below meth c (MQ below (q_Qc D cy b0 (some (.int r)) σ h') args s 0 0 (fun q => b0 ≤ q)) D cy b0 6 0 0 0 0 σ h 236 [(0, .ref a0), (3, .int x3)] [.int s0] := by
    intro h x3 s0 hf
    unfold fX5_comesTold_236 at hf
    refine v_run C0 tbX5 cokX5_comesTold (pc' := 240) (lv' := [(5, .int s0), (0, .ref a0), (3, .int x3)]) (st' := [.int s0]) (h' := h) 2 rfl trivial ?_
    refine v_if_eq C0 cokX5_comesTold rfl 248 (by decide) hf (fun _ hf => ?_) (fun _ hf => ?_)
    · refine v_run C0 tbX5 cokX5_comesTold (pc' := 250) (lv' := [(5, .int s0), (0, .ref a0), (3, .int x3)]) (st' := [.int s0]) (h' := h) 1 rfl trivial ?_
      obtain ⟨g27, hf⟩ := q_gu_o hf
      obtain ⟨rfl, rfl⟩ := Prod.mk.inj (Option.some.inj hf)
      exact v_zret C0 cokX5_comesTold hr hlk rfl g27
    · refine v_run C0 tbX5 cokX5_comesTold (pc' := 245) (lv' := [(5, .int s0), (0, .ref a0), (3, .int x3)]) (st' := [.int x3, .ref a0]) (h' := h) 2 rfl trivial ?_
      obtain ⟨h28, e28, hf⟩ := q_bd hf
      refine v_callV C0 cokX5_comesTold rfl (rest := []) (ctX5_clean a0 x3 ta0 e28) calX5_clean lkX5_189 inX5_clean dnX5_clean (ci := 5) ⟨rfl, by decide⟩ ta0 rfl rfl ⟨by decide, by decide⟩ (Nat.le_of_ble_eq_true rfl) (Nat.le_refl _) (Nat.le_refl _) ?_
      refine v_run C0 tbX5 cokX5_comesTold (pc' := 250) (lv' := [(5, .int s0), (0, .ref a0), (3, .int x3)]) (st' := [.int s0]) (h' := h28) 1 rfl trivial ?_
      obtain ⟨g29, hf⟩ := q_gu_o hf
      obtain ⟨rfl, rfl⟩ := Prod.mk.inj (Option.some.inj hf)
      exact v_zret C0 cokX5_comesTold hr hlk rfl g29
  have n235 : ∀ (h : q_Hp) (x3 : Int32), fX5_comesTold_235 σ h a0 x1 x3 = some (r, h') → V p l e { frames := 3, cells := 0, slots := 0, locals := 65 } s m args below meth c (MQ below (q_Qc D cy b0 (some (.int r)) σ h') args s 0 0 (fun q => b0 ≤ q)) D cy b0 6 0 0 0 0 σ h 235 [(0, .ref a0), (3, .int x3)] [] := by
    intro h x3 hf
    unfold fX5_comesTold_235 at hf
    refine v_run C0 tbX5 cokX5_comesTold (pc' := 236) (lv' := [(0, .ref a0), (3, .int x3)]) (st' := [.int (0 : Int32)]) (h' := h) 1 rfl trivial ?_
    refine v_pick [0, 1] rfl ?_
    exact n236 h x3 (0 : Int32) hf
  obtain ⟨⟨g1, g2, g3⟩, hf⟩ := q_gu_o hf
  refine v_run C0 tbX5 cokX5_comesTold (pc' := 30) (lv' := [(5, .int (1 : Int32)), (4, .int (q_int h (q_ref σ a0 28) (Int32.toNatClampNeg (((5 : Int32) * x1) + (1 : Int32))))), (3, .int (q_int h (q_ref σ a0 28) (Int32.toNatClampNeg ((5 : Int32) * x1)))), (2, .int ((5 : Int32) * x1)), (0, .ref a0), (1, .int x1)]) (st' := [.int (q_int h (q_ref σ a0 27) (Int32.toNatClampNeg x1))]) (h' := h) 22 rfl ⟨⟨ta0, q_tn k0⟩, ⟨k0, g1⟩, ⟨ta0, q_tn k0⟩, ⟨k0, g2⟩, ⟨ta0, q_tn k1⟩, ⟨k1, g3⟩, trivial⟩ ?_
  rcases q_ite hf with ⟨d9, hf⟩ | ⟨d9, hf⟩
  · refine v_lkI C0 dswX5_comesTold_30 d9 96 (by decide +kernel) (by decide +kernel) ?_
    obtain ⟨⟨g4, g5, g6⟩, hf⟩ := q_gu_o hf
    refine v_run C0 tbX5 cokX5_comesTold (pc' := 124) (lv' := [(5, .int (1 : Int32)), (4, .int (q_int h (q_ref σ a0 28) (Int32.toNatClampNeg (((5 : Int32) * x1) + (1 : Int32))))), (3, .int (q_int h (q_ref σ a0 28) (Int32.toNatClampNeg ((5 : Int32) * x1)))), (2, .int ((5 : Int32) * x1)), (0, .ref a0), (1, .int x1)]) (st' := [.int (q_int h (q_ref σ a0 28) (Int32.toNatClampNeg (((5 : Int32) * x1) + (4 : Int32)))), .int (q_int h (q_ref σ a0 28) (Int32.toNatClampNeg (((5 : Int32) * x1) + (3 : Int32)))), .int (q_int h (q_ref σ a0 28) (Int32.toNatClampNeg (((5 : Int32) * x1) + (2 : Int32)))), .int (q_int h (q_ref σ a0 28) (Int32.toNatClampNeg (((5 : Int32) * x1) + (1 : Int32)))), .int (q_int h (q_ref σ a0 28) (Int32.toNatClampNeg ((5 : Int32) * x1))), .ref a0]) (h' := h) 21 rfl ⟨⟨ta0, q_tn k0⟩, ⟨k0, g4⟩, ⟨ta0, q_tn k0⟩, ⟨k0, g5⟩, ⟨ta0, q_tn k0⟩, ⟨k0, g6⟩, trivial⟩ ?_
    obtain ⟨r7, h7, e7, hf⟩ := q_bd2 hf
    refine v_callV C0 cokX5_comesTold rfl (rest := []) (ctX5_bookingComes a0 (q_int h (q_ref σ a0 28) (Int32.toNatClampNeg ((5 : Int32) * x1))) (q_int h (q_ref σ a0 28) (Int32.toNatClampNeg (((5 : Int32) * x1) + (1 : Int32)))) (q_int h (q_ref σ a0 28) (Int32.toNatClampNeg (((5 : Int32) * x1) + (2 : Int32)))) (q_int h (q_ref σ a0 28) (Int32.toNatClampNeg (((5 : Int32) * x1) + (3 : Int32)))) (q_int h (q_ref σ a0 28) (Int32.toNatClampNeg (((5 : Int32) * x1) + (4 : Int32)))) ta0 e7) calX5_bookingComes lkX5_165 inX5_bookingComes dnX5_bookingComes (ci := 5) ⟨rfl, by decide⟩ ta0 rfl rfl ⟨by decide, by decide⟩ (Nat.le_of_ble_eq_true rfl) (Nat.le_refl _) (Nat.le_refl _) ?_
    obtain ⟨g8, hf⟩ := q_gu_o hf
    obtain ⟨rfl, rfl⟩ := Prod.mk.inj (Option.some.inj hf)
    exact v_zret C0 cokX5_comesTold hr hlk rfl g8
  · rcases q_ite hf with ⟨d13, hf⟩ | ⟨d13, hf⟩
    · refine v_lkI C0 dswX5_comesTold_30 d13 128 (by decide +kernel) (by decide +kernel) ?_
      refine v_run C0 tbX5 cokX5_comesTold (pc' := 130) (lv' := [(5, .int (1 : Int32)), (4, .int (q_int h (q_ref σ a0 28) (Int32.toNatClampNeg (((5 : Int32) * x1) + (1 : Int32))))), (3, .int (q_int h (q_ref σ a0 28) (Int32.toNatClampNeg ((5 : Int32) * x1)))), (2, .int ((5 : Int32) * x1)), (0, .ref a0), (1, .int x1)]) (st' := [.int (q_int h (q_ref σ a0 28) (Int32.toNatClampNeg ((5 : Int32) * x1))), .ref a0]) (h' := h) 2 rfl trivial ?_
      obtain ⟨r10, e10, hf⟩ := q_bd hf
      refine v_callV C0 cokX5_comesTold rfl (rest := []) (ctX5_isSuit a0 (q_int h (q_ref σ a0 28) (Int32.toNatClampNeg ((5 : Int32) * x1))) ta0 e10) calX5_isSuit lkX5_169 inX5_isSuit dnX5_isSuit (ci := 5) ⟨rfl, by decide⟩ ta0 rfl rfl ⟨by decide, by decide⟩ (Nat.le_of_ble_eq_true rfl) (Nat.le_refl _) (Nat.le_refl _) ?_
      refine v_if_eq C0 cokX5_comesTold rfl 159 (by decide) hf (fun _ hf => ?_) (fun _ hf => ?_)
      · refine v_pick [4, 2, 1] rfl ?_
        exact n159 h (q_int h (q_ref σ a0 28) (Int32.toNatClampNeg ((5 : Int32) * x1))) (q_int h (q_ref σ a0 28) (Int32.toNatClampNeg (((5 : Int32) * x1) + (1 : Int32)))) hf
      · refine v_run C0 tbX5 cokX5_comesTold (pc' := 139) (lv' := [(5, .int (1 : Int32)), (4, .int (q_int h (q_ref σ a0 28) (Int32.toNatClampNeg (((5 : Int32) * x1) + (1 : Int32))))), (3, .int (q_int h (q_ref σ a0 28) (Int32.toNatClampNeg ((5 : Int32) * x1)))), (2, .int ((5 : Int32) * x1)), (0, .ref a0), (1, .int x1)]) (st' := [.int (q_int h (q_ref σ a0 28) (Int32.toNatClampNeg (((5 : Int32) * x1) + (1 : Int32)))), .ref a0]) (h' := h) 2 rfl trivial ?_
        obtain ⟨r11, e11, hf⟩ := q_bd hf
        refine v_callV C0 cokX5_comesTold rfl (rest := []) (ctX5_isBooking a0 (q_int h (q_ref σ a0 28) (Int32.toNatClampNeg (((5 : Int32) * x1) + (1 : Int32)))) ta0 e11) calX5_isBooking lkX5_173 inX5_isBooking dnX5_isBooking (ci := 5) ⟨rfl, by decide⟩ ta0 rfl rfl ⟨by decide, by decide⟩ (Nat.le_of_ble_eq_true rfl) (Nat.le_refl _) (Nat.le_refl _) ?_
        refine v_if_eq C0 cokX5_comesTold rfl 159 (by decide) hf (fun _ hf => ?_) (fun _ hf => ?_)
        · refine v_pick [4, 2, 1] rfl ?_
          exact n159 h (q_int h (q_ref σ a0 28) (Int32.toNatClampNeg ((5 : Int32) * x1))) (q_int h (q_ref σ a0 28) (Int32.toNatClampNeg (((5 : Int32) * x1) + (1 : Int32)))) hf
        · refine v_run C0 tbX5 cokX5_comesTold (pc' := 149) (lv' := [(5, .int (1 : Int32)), (4, .int (q_int h (q_ref σ a0 28) (Int32.toNatClampNeg (((5 : Int32) * x1) + (1 : Int32))))), (3, .int (q_int h (q_ref σ a0 28) (Int32.toNatClampNeg ((5 : Int32) * x1)))), (2, .int ((5 : Int32) * x1)), (0, .ref a0), (1, .int x1)]) (st' := [.int (q_int h (q_ref σ a0 28) (Int32.toNatClampNeg (((5 : Int32) * x1) + (1 : Int32)))), .int (q_int h (q_ref σ a0 28) (Int32.toNatClampNeg ((5 : Int32) * x1))), .ref a0]) (h' := h) 3 rfl trivial ?_
          obtain ⟨r12, e12, hf⟩ := q_bd hf
          refine v_callV C0 cokX5_comesTold rfl (rest := []) (ctX5_canHire a0 (q_int h (q_ref σ a0 28) (Int32.toNatClampNeg ((5 : Int32) * x1))) (q_int h (q_ref σ a0 28) (Int32.toNatClampNeg (((5 : Int32) * x1) + (1 : Int32)))) ta0 e12) calX5_canHire lkX5_176 inX5_canHire dnX5_canHire (ci := 5) ⟨rfl, by decide⟩ ta0 rfl rfl ⟨by decide, by decide⟩ (Nat.le_of_ble_eq_true rfl) (Nat.le_refl _) (Nat.le_refl _) ?_
          refine v_if_eq C0 cokX5_comesTold rfl 159 (by decide) hf (fun _ hf => ?_) (fun _ hf => ?_)
          · refine v_pick [4, 2, 1] rfl ?_
            exact n159 h (q_int h (q_ref σ a0 28) (Int32.toNatClampNeg ((5 : Int32) * x1))) (q_int h (q_ref σ a0 28) (Int32.toNatClampNeg (((5 : Int32) * x1) + (1 : Int32)))) hf
          · refine v_run C0 tbX5 cokX5_comesTold (pc' := 160) (lv' := [(5, .int (1 : Int32)), (4, .int (q_int h (q_ref σ a0 28) (Int32.toNatClampNeg (((5 : Int32) * x1) + (1 : Int32))))), (3, .int (q_int h (q_ref σ a0 28) (Int32.toNatClampNeg ((5 : Int32) * x1)))), (2, .int ((5 : Int32) * x1)), (0, .ref a0), (1, .int x1)]) (st' := [.int (1 : Int32)]) (h' := h) 2 rfl trivial ?_
            refine v_pick [4, 2, 1] rfl ?_
            exact n160 h (q_int h (q_ref σ a0 28) (Int32.toNatClampNeg ((5 : Int32) * x1))) (q_int h (q_ref σ a0 28) (Int32.toNatClampNeg (((5 : Int32) * x1) + (1 : Int32)))) (1 : Int32) hf
    · rcases q_ite hf with ⟨d16, hf⟩ | ⟨d16, hf⟩
      · refine v_lkI C0 dswX5_comesTold_30 d16 177 (by decide +kernel) (by decide +kernel) ?_
        refine v_run C0 tbX5 cokX5_comesTold (pc' := 179) (lv' := [(5, .int (1 : Int32)), (4, .int (q_int h (q_ref σ a0 28) (Int32.toNatClampNeg (((5 : Int32) * x1) + (1 : Int32))))), (3, .int (q_int h (q_ref σ a0 28) (Int32.toNatClampNeg ((5 : Int32) * x1)))), (2, .int ((5 : Int32) * x1)), (0, .ref a0), (1, .int x1)]) (st' := [.int (q_int h (q_ref σ a0 28) (Int32.toNatClampNeg ((5 : Int32) * x1))), .ref a0]) (h' := h) 2 rfl trivial ?_
        obtain ⟨r14, e14, hf⟩ := q_bd hf
        refine v_callV C0 cokX5_comesTold rfl (rest := []) (ctX5_isSuit a0 (q_int h (q_ref σ a0 28) (Int32.toNatClampNeg ((5 : Int32) * x1))) ta0 e14) calX5_isSuit lkX5_169 inX5_isSuit dnX5_isSuit (ci := 5) ⟨rfl, by decide⟩ ta0 rfl rfl ⟨by decide, by decide⟩ (Nat.le_of_ble_eq_true rfl) (Nat.le_refl _) (Nat.le_refl _) ?_
        refine v_if_eq C0 cokX5_comesTold rfl 199 (by decide) hf (fun _ hf => ?_) (fun _ hf => ?_)
        · refine v_pick [4, 2] rfl ?_
          exact n199 h (q_int h (q_ref σ a0 28) (Int32.toNatClampNeg ((5 : Int32) * x1))) hf
        · obtain ⟨g15, hf⟩ := q_gu_o hf
          refine v_run C0 tbX5 cokX5_comesTold (pc' := 192) (lv' := [(5, .int (1 : Int32)), (4, .int (q_int h (q_ref σ a0 28) (Int32.toNatClampNeg (((5 : Int32) * x1) + (1 : Int32))))), (3, .int (q_int h (q_ref σ a0 28) (Int32.toNatClampNeg ((5 : Int32) * x1)))), (2, .int ((5 : Int32) * x1)), (0, .ref a0), (1, .int x1)]) (st' := [.int (1 : Int32), .int (q_int h (q_ref σ a0 5) (Int32.toNatClampNeg (q_int h (q_ref σ a0 28) (Int32.toNatClampNeg ((5 : Int32) * x1)))))]) (h' := h) 5 rfl ⟨⟨ta0, q_tn k2⟩, ⟨k2, g15⟩, trivial⟩ ?_
          refine v_icmp_ne C0 cokX5_comesTold rfl 199 (by decide) hf (fun _ hf => ?_) (fun _ hf => ?_)
          · refine v_run C0 tbX5 cokX5_comesTold (pc' := 200) (lv' := [(5, .int (1 : Int32)), (4, .int (q_int h (q_ref σ a0 28) (Int32.toNatClampNeg (((5 : Int32) * x1) + (1 : Int32))))), (3, .int (q_int h (q_ref σ a0 28) (Int32.toNatClampNeg ((5 : Int32) * x1)))), (2, .int ((5 : Int32) * x1)), (0, .ref a0), (1, .int x1)]) (st' := [.int (1 : Int32)]) (h' := h) 2 rfl trivial ?_
            refine v_pick [4, 2] rfl ?_
            exact n200 h (q_int h (q_ref σ a0 28) (Int32.toNatClampNeg ((5 : Int32) * x1))) (1 : Int32) hf
          · refine v_pick [4, 2] rfl ?_
            exact n199 h (q_int h (q_ref σ a0 28) (Int32.toNatClampNeg ((5 : Int32) * x1))) hf
      · rcases q_ite hf with ⟨d21, hf⟩ | ⟨d21, hf⟩
        · refine v_lkI C0 dswX5_comesTold_30 d21 72 (by decide +kernel) (by decide +kernel) ?_
          obtain ⟨⟨g17, g18⟩, hf⟩ := q_gu_o hf
          refine v_run C0 tbX5 cokX5_comesTold (pc' := 92) (lv' := [(5, .int (1 : Int32)), (4, .int (q_int h (q_ref σ a0 28) (Int32.toNatClampNeg (((5 : Int32) * x1) + (1 : Int32))))), (3, .int (q_int h (q_ref σ a0 28) (Int32.toNatClampNeg ((5 : Int32) * x1)))), (2, .int ((5 : Int32) * x1)), (0, .ref a0), (1, .int x1)]) (st' := [.int (q_int h (q_ref σ a0 28) (Int32.toNatClampNeg (((5 : Int32) * x1) + (3 : Int32)))), .int (q_int h (q_ref σ a0 28) (Int32.toNatClampNeg (((5 : Int32) * x1) + (2 : Int32)))), .int (q_int h (q_ref σ a0 28) (Int32.toNatClampNeg (((5 : Int32) * x1) + (1 : Int32)))), .int (q_int h (q_ref σ a0 28) (Int32.toNatClampNeg ((5 : Int32) * x1))), .ref a0]) (h' := h) 15 rfl ⟨⟨ta0, q_tn k0⟩, ⟨k0, g17⟩, ⟨ta0, q_tn k0⟩, ⟨k0, g18⟩, trivial⟩ ?_
          obtain ⟨r19, h19, e19, hf⟩ := q_bd2 hf
          refine v_callV C0 cokX5_comesTold rfl (rest := []) (ctX5_suitComes a0 (q_int h (q_ref σ a0 28) (Int32.toNatClampNeg ((5 : Int32) * x1))) (q_int h (q_ref σ a0 28) (Int32.toNatClampNeg (((5 : Int32) * x1) + (1 : Int32)))) (q_int h (q_ref σ a0 28) (Int32.toNatClampNeg (((5 : Int32) * x1) + (2 : Int32)))) (q_int h (q_ref σ a0 28) (Int32.toNatClampNeg (((5 : Int32) * x1) + (3 : Int32)))) ta0 e19) calX5_suitComes lkX5_161 inX5_suitComes dnX5_suitComes (ci := 5) ⟨rfl, by decide⟩ ta0 rfl rfl ⟨by decide, by decide⟩ (Nat.le_of_ble_eq_true rfl) (Nat.le_refl _) (Nat.le_refl _) ?_
          obtain ⟨g20, hf⟩ := q_gu_o hf
          obtain ⟨rfl, rfl⟩ := Prod.mk.inj (Option.some.inj hf)
          exact v_zret C0 cokX5_comesTold hr hlk rfl g20
        · refine v_lkO C0 dswX5_comesTold_30 215 [98, 104, 114, 115] rfl (by decide +kernel) (by decide +kernel) (fun k hk hx => ?_) ?_
          · simp only [List.mem_cons, List.not_mem_nil, or_false] at hk
            rcases hk with rfl | rfl | rfl | rfl
            · exact d9 (Int32.toInt_inj.mp hx)
            · exact d13 (Int32.toInt_inj.mp hx)
            · exact d16 (Int32.toInt_inj.mp hx)
            · exact d21 (Int32.toInt_inj.mp hx)
          · refine v_run C0 tbX5 cokX5_comesTold (pc' := 217) (lv' := [(5, .int (1 : Int32)), (4, .int (q_int h (q_ref σ a0 28) (Int32.toNatClampNeg (((5 : Int32) * x1) + (1 : Int32))))), (3, .int (q_int h (q_ref σ a0 28) (Int32.toNatClampNeg ((5 : Int32) * x1)))), (2, .int ((5 : Int32) * x1)), (0, .ref a0), (1, .int x1)]) (st' := [.int (q_int h (q_ref σ a0 28) (Int32.toNatClampNeg ((5 : Int32) * x1))), .ref a0]) (h' := h) 2 rfl trivial ?_
            obtain ⟨r22, e22, hf⟩ := q_bd hf
            refine v_callV C0 cokX5_comesTold rfl (rest := []) (ctX5_isSuit a0 (q_int h (q_ref σ a0 28) (Int32.toNatClampNeg ((5 : Int32) * x1))) ta0 e22) calX5_isSuit lkX5_169 inX5_isSuit dnX5_isSuit (ci := 5) ⟨rfl, by decide⟩ ta0 rfl rfl ⟨by decide, by decide⟩ (Nat.le_of_ble_eq_true rfl) (Nat.le_refl _) (Nat.le_refl _) ?_
            refine v_if_eq C0 cokX5_comesTold rfl 235 (by decide) hf (fun _ hf => ?_) (fun _ hf => ?_)
            · refine v_pick [4, 2] rfl ?_
              exact n235 h (q_int h (q_ref σ a0 28) (Int32.toNatClampNeg ((5 : Int32) * x1))) hf
            · refine v_run C0 tbX5 cokX5_comesTold (pc' := 225) (lv' := [(5, .int (1 : Int32)), (4, .int (q_int h (q_ref σ a0 28) (Int32.toNatClampNeg (((5 : Int32) * x1) + (1 : Int32))))), (3, .int (q_int h (q_ref σ a0 28) (Int32.toNatClampNeg ((5 : Int32) * x1)))), (2, .int ((5 : Int32) * x1)), (0, .ref a0), (1, .int x1)]) (st' := [.int (q_int h (q_ref σ a0 28) (Int32.toNatClampNeg ((5 : Int32) * x1))), .ref a0]) (h' := h) 2 rfl trivial ?_
              obtain ⟨r23, e23, hf⟩ := q_bd hf
              refine v_callV C0 cokX5_comesTold rfl (rest := []) (ctX5_canClean a0 (q_int h (q_ref σ a0 28) (Int32.toNatClampNeg ((5 : Int32) * x1))) ta0 e23) calX5_canClean lkX5_186 inX5_canClean dnX5_canClean (ci := 5) ⟨rfl, by decide⟩ ta0 rfl rfl ⟨by decide, by decide⟩ (Nat.le_of_ble_eq_true rfl) (Nat.le_refl _) (Nat.le_refl _) ?_
              refine v_if_eq C0 cokX5_comesTold rfl 235 (by decide) hf (fun _ hf => ?_) (fun _ hf => ?_)
              · refine v_pick [4, 2] rfl ?_
                exact n235 h (q_int h (q_ref σ a0 28) (Int32.toNatClampNeg ((5 : Int32) * x1))) hf
              · refine v_run C0 tbX5 cokX5_comesTold (pc' := 236) (lv' := [(5, .int (1 : Int32)), (4, .int (q_int h (q_ref σ a0 28) (Int32.toNatClampNeg (((5 : Int32) * x1) + (1 : Int32))))), (3, .int (q_int h (q_ref σ a0 28) (Int32.toNatClampNeg ((5 : Int32) * x1)))), (2, .int ((5 : Int32) * x1)), (0, .ref a0), (1, .int x1)]) (st' := [.int (1 : Int32)]) (h' := h) 2 rfl trivial ?_
                refine v_pick [4, 2] rfl ?_
                exact n236 h (q_int h (q_ref σ a0 28) (Int32.toNatClampNeg ((5 : Int32) * x1))) (1 : Int32) hf
-- BackByNoonOnMondayModel.wrongRow(I)I
noncomputable def fX5_wrongRow (σ : q_St) (h : q_Hp) (a0 : Nat) (x1 : Int32) : Option Int32 := q_gu ((q_tag σ (q_ref σ a0 15) = 7)) (((fX5_in σ h (Int32.toInt64 x1) (0 : Int64) (7 : Int64)).bind fun r1 => (if r1 = 0 then some (-1 : Int32) else q_gu ((vp_in x1 (q_len σ (q_ref σ a0 15)))) ((if (q_int h (q_ref σ a0 15) (Int32.toNatClampNeg x1)) = 0 then some (-11 : Int32) else (if (q_int h (q_ref σ a0 15) (Int32.toNatClampNeg x1)) = (2 : Int32) then some (0 : Int32) else some (-12 : Int32)))))))
def cdX5_wrongRow : q_Cd := [(0, .iload_n 1), (1, .i2l), (2, .lconst 0), (3, .ldc2_w 229), (6, .invokestatic 96), (9, .ifCond .ne 7), (12, .iconst (-1)), (13, .goto 33), (16, .aload_n 0), (17, .getfield 43), (20, .iload_n 1), (21, .iaload), (22, .ifCond .ne 8), (25, .bipush (-11)), (27, .goto 19), (30, .aload_n 0), (31, .getfield 43), (34, .iload_n 1), (35, .iaload), (36, .iconst 2), (37, .if_icmp .eq 8), (40, .bipush (-12)), (42, .goto 4), (45, .iconst 0), (46, .ireturn)]
set_option maxRecDepth 100000 in
theorem cokX5_wrongRow : q_cok cX5_wrongRow cdX5_wrongRow := by unfold q_cok; decide +kernel
set_option maxRecDepth 100000 in
set_option maxHeartbeats 4000000 in
theorem ctX5_wrongRow {l : Launch} {D : va_G} {cy : Nat → Nat} {b0 : Nat} {σ : q_St} {h : q_Hp} (a0 : Nat) (x1 : Int32) {r : Int32} (ta0 : q_tag σ a0 = 6) (hf : fX5_wrongRow σ h a0 x1 = some r) : q_M l yX5_wrongRow cX5_wrongRow 2 (some .int) 1 25 0 0 D cy b0 σ h [.ref a0, .int x1] (some (.int r)) σ h := by
  unfold fX5_wrongRow at hf
  obtain ⟨k0, hf⟩ := q_gu_o hf
  refine q_enter (by decide) (Nat.le_of_ble_eq_true rfl) ?_
  intro p e s m args below meth c C0 hr hlk hnm
  replace C0 : VC p { frames := 1, cells := 0, slots := 0, locals := 25 } s m args meth c D cy b0 2 0 0 RX5 cX5_wrongRow := C0
  refine v_run C0 tbX5 cokX5_wrongRow (pc' := 6) (lv' := [(0, .ref a0), (1, .int x1)]) (st' := [.long (7 : Int64), .long (0 : Int64), .long (Int32.toInt64 x1)]) (h' := h) 4 rfl trivial ?_
  obtain ⟨r1, e1, hf⟩ := q_bd hf
  refine v_callS C0 cokX5_wrongRow rfl (rest := []) (ctX5_in (Int32.toInt64 x1) (0 : Int64) (7 : Int64) e1) calX5_in lkX5_96 inX5_in dnX5_in rfl rfl ⟨by decide, by decide⟩ (Nat.le_of_ble_eq_true rfl) (Nat.le_refl _) (Nat.le_refl _) ?_
  refine v_if_ne C0 cokX5_wrongRow rfl 16 (by decide) hf (fun _ hf => ?_) (fun _ hf => ?_)
  · refine v_run C0 tbX5 cokX5_wrongRow (pc' := 46) (lv' := [(0, .ref a0), (1, .int x1)]) (st' := [.int (-1 : Int32)]) (h' := h) 2 rfl trivial ?_
    obtain rfl := Option.some.inj hf
    exact v_iret C0 cokX5_wrongRow hr hlk rfl
  · obtain ⟨g2, hf⟩ := q_gu_o hf
    refine v_run C0 tbX5 cokX5_wrongRow (pc' := 22) (lv' := [(0, .ref a0), (1, .int x1)]) (st' := [.int (q_int h (q_ref σ a0 15) (Int32.toNatClampNeg x1))]) (h' := h) 4 rfl ⟨⟨ta0, q_tn k0⟩, ⟨k0, g2⟩, trivial⟩ ?_
    refine v_if_ne C0 cokX5_wrongRow rfl 30 (by decide) hf (fun _ hf => ?_) (fun _ hf => ?_)
    · refine v_run C0 tbX5 cokX5_wrongRow (pc' := 46) (lv' := [(0, .ref a0), (1, .int x1)]) (st' := [.int (-11 : Int32)]) (h' := h) 2 rfl trivial ?_
      obtain rfl := Option.some.inj hf
      exact v_iret C0 cokX5_wrongRow hr hlk rfl
    · refine v_run C0 tbX5 cokX5_wrongRow (pc' := 37) (lv' := [(0, .ref a0), (1, .int x1)]) (st' := [.int (2 : Int32), .int (q_int h (q_ref σ a0 15) (Int32.toNatClampNeg x1))]) (h' := h) 5 rfl ⟨⟨ta0, q_tn k0⟩, ⟨k0, g2⟩, trivial⟩ ?_
      refine v_icmp_eq C0 cokX5_wrongRow rfl 45 (by decide) hf (fun _ hf => ?_) (fun _ hf => ?_)
      · refine v_run C0 tbX5 cokX5_wrongRow (pc' := 46) (lv' := [(0, .ref a0), (1, .int x1)]) (st' := [.int (0 : Int32)]) (h' := h) 1 rfl trivial ?_
        obtain rfl := Option.some.inj hf
        exact v_iret C0 cokX5_wrongRow hr hlk rfl
      · refine v_run C0 tbX5 cokX5_wrongRow (pc' := 46) (lv' := [(0, .ref a0), (1, .int x1)]) (st' := [.int (-12 : Int32)]) (h' := h) 2 rfl trivial ?_
        obtain rfl := Option.some.inj hf
        exact v_iret C0 cokX5_wrongRow hr hlk rfl
-- BackByNoonOnMondayModel.carry(I)I
noncomputable def fX5_carry_17 (σ : q_St) (h : q_Hp) (a0 : Nat) (x1 : Int32) : Option (Int32 × q_Hp) := q_gu ((vp_in ((q_int (q_si h a0 32 ((q_int h a0 32) + (1 : Int32))) a0 32) - (1 : Int32)) (q_len σ (q_ref σ a0 34)))) (some ((q_int (q_si h a0 32 ((q_int h a0 32) + (1 : Int32))) (q_ref σ a0 34) (Int32.toNatClampNeg ((q_int (q_si h a0 32 ((q_int h a0 32) + (1 : Int32))) a0 32) - (1 : Int32)))), (q_si h a0 32 ((q_int h a0 32) + (1 : Int32)))))
noncomputable def fX5_carry (σ : q_St) (h : q_Hp) (a0 : Nat) (x1 : Int32) : Option (Int32 × q_Hp) := q_gu ((q_tag σ (q_ref σ a0 34) = 7)) ((if (q_int h a0 33) = 0 then fX5_carry_17 σ h a0 x1 else q_gu ((vp_in (q_int h a0 32) (q_len σ (q_ref σ a0 34)))) (fX5_carry_17 σ (q_si h (q_ref σ a0 34) (Int32.toNatClampNeg (q_int h a0 32)) x1) a0 x1)))
def cdX5_carry : q_Cd := [(0, .aload_n 0), (1, .getfield 207), (4, .ifCond .eq 13), (7, .aload_n 0), (8, .getfield 210), (11, .aload_n 0), (12, .getfield 213), (15, .iload_n 1), (16, .iastore), (17, .aload_n 0), (18, .dup), (19, .getfield 213), (22, .iconst 1), (23, .iadd), (24, .putfield 213), (27, .aload_n 0), (28, .getfield 210), (31, .aload_n 0), (32, .getfield 213), (35, .iconst 1), (36, .isub), (37, .iaload), (38, .ireturn)]
set_option maxRecDepth 100000 in
theorem cokX5_carry : q_cok cX5_carry cdX5_carry := by unfold q_cok; decide +kernel
set_option maxRecDepth 100000 in
set_option maxHeartbeats 4000000 in
theorem ctX5_carry {l : Launch} {D : va_G} {cy : Nat → Nat} {b0 : Nat} {σ : q_St} {h : q_Hp} (a0 : Nat) (x1 : Int32) {r : Int32} {h' : q_Hp} (ta0 : q_tag σ a0 = 6) (hf : fX5_carry σ h a0 x1 = some (r, h')) : q_M l yX5_carry cX5_carry 2 (some .int) 0 0 0 0 D cy b0 σ h [.ref a0, .int x1] (some (.int r)) σ h' := by
  unfold fX5_carry at hf
  obtain ⟨k0, hf⟩ := q_gu_o hf
  refine q_enter (by decide) (Nat.le_of_ble_eq_true rfl) ?_
  intro p e s m args below meth c C0 hr hlk hnm
  replace C0 : VC p { frames := 0, cells := 0, slots := 0, locals := 0 } s m args meth c D cy b0 2 0 0 RX5 cX5_carry := C0
  have n17 : ∀ (h : q_Hp), fX5_carry_17 σ h a0 x1 = some (r, h') → V p l e { frames := 0, cells := 0, slots := 0, locals := 0 } s m args below meth c (MQ below (q_Qc D cy b0 (some (.int r)) σ h') args s 0 0 (fun q => b0 ≤ q)) D cy b0 2 0 0 0 0 σ h 17 [(0, .ref a0)] [] := by
    intro h hf
    unfold fX5_carry_17 at hf
    obtain ⟨g2, hf⟩ := q_gu_o hf
    refine v_run C0 tbX5 cokX5_carry (pc' := 38) (lv' := [(0, .ref a0)]) (st' := [.int (q_int (q_si h a0 32 ((q_int h a0 32) + (1 : Int32))) (q_ref σ a0 34) (Int32.toNatClampNeg ((q_int (q_si h a0 32 ((q_int h a0 32) + (1 : Int32))) a0 32) - (1 : Int32))))]) (h' := (q_si h a0 32 ((q_int h a0 32) + (1 : Int32)))) 13 rfl ⟨ta0, ta0, ⟨ta0, q_tn k0⟩, ta0, ⟨k0, g2⟩, trivial⟩ ?_
    obtain ⟨rfl, rfl⟩ := Prod.mk.inj (Option.some.inj hf)
    exact v_iret C0 cokX5_carry hr hlk rfl
  refine v_run C0 tbX5 cokX5_carry (pc' := 4) (lv' := [(0, .ref a0), (1, .int x1)]) (st' := [.int (q_int h a0 33)]) (h' := h) 2 rfl ⟨ta0, trivial⟩ ?_
  refine v_if_eq C0 cokX5_carry rfl 17 (by decide) hf (fun _ hf => ?_) (fun _ hf => ?_)
  · refine v_pick [0] rfl ?_
    exact n17 h hf
  · obtain ⟨g1, hf⟩ := q_gu_o hf
    refine v_run C0 tbX5 cokX5_carry (pc' := 17) (lv' := [(0, .ref a0), (1, .int x1)]) (st' := []) (h' := (q_si h (q_ref σ a0 34) (Int32.toNatClampNeg (q_int h a0 32)) x1)) 6 rfl ⟨⟨ta0, q_tn k0⟩, ta0, ⟨k0, g1⟩, trivial⟩ ?_
    refine v_pick [0] rfl ?_
    exact n17 (q_si h (q_ref σ a0 34) (Int32.toNatClampNeg (q_int h a0 32)) x1) hf
-- BackByNoonOnMondayModel.carryAll([IZ)V
noncomputable def fX5_carryAll_65 (a0 : Nat) (a1 : Nat) (x2 : Int32) (x3 : Int32) (σ : q_St) (h : q_Hp) : Option ((Int32 × q_St × q_Hp) ⊕ (q_St × q_Hp)) := (if (8 : Int32) ≤ x3 then some (Sum.inr (σ, h)) else q_gu ((q_tag σ a0 = 6) ∧ (q_tag σ (q_ref σ a0 1) = 7) ∧ (vp_in x3 (q_len σ (q_ref σ a0 1)))) ((q_b2 (fX5_carry σ h a0 (q_int h (q_ref σ a0 1) (Int32.toNatClampNeg x3))) fun r30 h30 => q_gu ((q_tag σ (q_ref σ a0 2) = 7) ∧ (vp_in x3 (q_len σ (q_ref σ a0 2)))) ((q_b2 (fX5_carry σ (q_si h30 (q_ref σ a0 1) (Int32.toNatClampNeg x3) r30) a0 (q_int (q_si h30 (q_ref σ a0 1) (Int32.toNatClampNeg x3) r30) (q_ref σ a0 2) (Int32.toNatClampNeg x3))) fun r33 h33 => q_gu ((q_tag σ (q_ref σ a0 3) = 7) ∧ (vp_in x3 (q_len σ (q_ref σ a0 3)))) ((q_b2 (fX5_carry σ (q_si h33 (q_ref σ a0 2) (Int32.toNatClampNeg x3) r33) a0 (q_int (q_si h33 (q_ref σ a0 2) (Int32.toNatClampNeg x3) r33) (q_ref σ a0 3) (Int32.toNatClampNeg x3))) fun r36 h36 => q_gu ((q_tag σ (q_ref σ a0 4) = 7) ∧ (vp_in x3 (q_len σ (q_ref σ a0 4)))) ((q_b2 (fX5_carry σ (q_si h36 (q_ref σ a0 3) (Int32.toNatClampNeg x3) r36) a0 (q_int (q_si h36 (q_ref σ a0 3) (Int32.toNatClampNeg x3) r36) (q_ref σ a0 4) (Int32.toNatClampNeg x3))) fun r39 h39 => q_gu ((q_tag σ (q_ref σ a0 5) = 7) ∧ (vp_in x3 (q_len σ (q_ref σ a0 5)))) ((q_b2 (fX5_carry σ (q_si h39 (q_ref σ a0 4) (Int32.toNatClampNeg x3) r39) a0 (q_int (q_si h39 (q_ref σ a0 4) (Int32.toNatClampNeg x3) r39) (q_ref σ a0 5) (Int32.toNatClampNeg x3))) fun r42 h42 => some (Sum.inl ((x3 + (1 : Int32)), σ, (q_si h42 (q_ref σ a0 5) (Int32.toNatClampNeg x3) r42))))))))))))))
noncomputable def fX5_carryAll_159 (a0 : Nat) (a1 : Nat) (x2 : Int32) (x3 : Int32) (σ : q_St) (h : q_Hp) : Option ((Int32 × q_St × q_Hp) ⊕ (q_St × q_Hp)) := (if (7 : Int32) ≤ x3 then some (Sum.inr (σ, h)) else q_gu ((q_tag σ a0 = 6) ∧ (q_tag σ (q_ref σ a0 7) = 7) ∧ (vp_in x3 (q_len σ (q_ref σ a0 7)))) ((q_b2 (fX5_carry σ h a0 (q_int h (q_ref σ a0 7) (Int32.toNatClampNeg x3))) fun r11 h11 => q_gu ((q_tag σ (q_ref σ a0 8) = 7) ∧ (vp_in x3 (q_len σ (q_ref σ a0 8)))) ((q_b2 (fX5_carry σ (q_si h11 (q_ref σ a0 7) (Int32.toNatClampNeg x3) r11) a0 (q_int (q_si h11 (q_ref σ a0 7) (Int32.toNatClampNeg x3) r11) (q_ref σ a0 8) (Int32.toNatClampNeg x3))) fun r14 h14 => q_gu ((q_tag σ (q_ref σ a0 9) = 7) ∧ (vp_in x3 (q_len σ (q_ref σ a0 9)))) ((q_b2 (fX5_carry σ (q_si h14 (q_ref σ a0 8) (Int32.toNatClampNeg x3) r14) a0 (q_int (q_si h14 (q_ref σ a0 8) (Int32.toNatClampNeg x3) r14) (q_ref σ a0 9) (Int32.toNatClampNeg x3))) fun r17 h17 => q_gu ((q_tag σ (q_ref σ a0 10) = 7) ∧ (vp_in x3 (q_len σ (q_ref σ a0 10)))) ((q_b2 (fX5_carry σ (q_si h17 (q_ref σ a0 9) (Int32.toNatClampNeg x3) r17) a0 (q_int (q_si h17 (q_ref σ a0 9) (Int32.toNatClampNeg x3) r17) (q_ref σ a0 10) (Int32.toNatClampNeg x3))) fun r20 h20 => q_gu ((q_tag σ (q_ref σ a0 11) = 7) ∧ (vp_in x3 (q_len σ (q_ref σ a0 11)))) ((q_b2 (fX5_carry σ (q_si h20 (q_ref σ a0 10) (Int32.toNatClampNeg x3) r20) a0 (q_int (q_si h20 (q_ref σ a0 10) (Int32.toNatClampNeg x3) r20) (q_ref σ a0 11) (Int32.toNatClampNeg x3))) fun r23 h23 => q_gu ((q_tag σ (q_ref σ a0 12) = 7) ∧ (vp_in x3 (q_len σ (q_ref σ a0 12)))) ((q_b2 (fX5_carry σ (q_si h23 (q_ref σ a0 11) (Int32.toNatClampNeg x3) r23) a0 (q_int (q_si h23 (q_ref σ a0 11) (Int32.toNatClampNeg x3) r23) (q_ref σ a0 12) (Int32.toNatClampNeg x3))) fun r26 h26 => some (Sum.inl ((x3 + (1 : Int32)), σ, (q_si h26 (q_ref σ a0 12) (Int32.toNatClampNeg x3) r26))))))))))))))))
noncomputable def fX5_carryAll (σ : q_St) (h : q_Hp) (a0 : Nat) (a1 : Nat) (x2 : Int32) : Option (q_St × q_Hp) := q_gu (((x2 = 0 ∨ x2 = 1))) ((q_b2 (fX5_carry (q_sr σ a0 34 a1) (q_si (q_si h a0 33 x2) a0 32 (0 : Int32)) a0 (q_int (q_si (q_si h a0 33 x2) a0 32 (0 : Int32)) a0 0)) fun r2 h2 => (q_b2 (fX5_carry (q_sr σ a0 34 a1) (q_si h2 a0 0 r2) a0 (q_int (q_si h2 a0 0 r2) a0 6)) fun r3 h3 => (q_b2 (fX5_carry (q_sr σ a0 34 a1) (q_si h3 a0 6 r3) a0 (q_int (q_si h3 a0 6 r3) a0 13)) fun r4 h4 => (q_b2 (fX5_carry (q_sr σ a0 34 a1) (q_si h4 a0 13 r4) a0 (q_int (q_si h4 a0 13 r4) a0 14)) fun r5 h5 => (q_loop (fun s => fX5_carryAll_65  a0 a1 x2 s.1 s.2.1 s.2.2) q_N ((0 : Int32), (q_sr σ a0 34 a1), (q_si h5 a0 14 r5))).bind fun o6 => (q_loop (fun s => fX5_carryAll_159  a0 a1 x2 s.1 s.2.1 s.2.2) q_N ((0 : Int32), o6.1, o6.2)).bind fun o7 => some (o7.1, o7.2))))))
def cdX5_carryAll : q_Cd := [(0, .aload_n 0), (1, .aload_n 1), (2, .putfield 210), (5, .aload_n 0), (6, .iload_n 2), (7, .putfield 207), (10, .aload_n 0), (11, .iconst 0), (12, .putfield 213), (15, .aload_n 0), (16, .aload_n 0), (17, .aload_n 0), (18, .getfield 93), (21, .invokevirtual 216), (24, .putfield 93), (27, .aload_n 0), (28, .aload_n 0), (29, .aload_n 0), (30, .getfield 100), (33, .invokevirtual 216), (36, .putfield 100), (39, .aload_n 0), (40, .aload_n 0), (41, .aload_n 0), (42, .getfield 118), (45, .invokevirtual 216), (48, .putfield 118), (51, .aload_n 0), (52, .aload_n 0), (53, .aload_n 0), (54, .getfield 127), (57, .invokevirtual 216), (60, .putfield 127), (63, .iconst 0), (64, .istore_n 3), (65, .iload_n 3), (66, .bipush 8), (68, .if_icmp .ge 89), (71, .aload_n 0), (72, .getfield 7), (75, .iload_n 3), (76, .aload_n 0), (77, .aload_n 0), (78, .getfield 7), (81, .iload_n 3), (82, .iaload), (83, .invokevirtual 216), (86, .iastore), (87, .aload_n 0), (88, .getfield 13), (91, .iload_n 3), (92, .aload_n 0), (93, .aload_n 0), (94, .getfield 13), (97, .iload_n 3), (98, .iaload), (99, .invokevirtual 216), (102, .iastore), (103, .aload_n 0), (104, .getfield 16), (107, .iload_n 3), (108, .aload_n 0), (109, .aload_n 0), (110, .getfield 16), (113, .iload_n 3), (114, .iaload), (115, .invokevirtual 216), (118, .iastore), (119, .aload_n 0), (120, .getfield 19), (123, .iload_n 3), (124, .aload_n 0), (125, .aload_n 0), (126, .getfield 19), (129, .iload_n 3), (130, .iaload), (131, .invokevirtual 216), (134, .iastore), (135, .aload_n 0), (136, .getfield 22), (139, .iload_n 3), (140, .aload_n 0), (141, .aload_n 0), (142, .getfield 22), (145, .iload_n 3), (146, .iaload), (147, .invokevirtual 216), (150, .iastore), (151, .iinc 3 1), (154, .goto (-89)), (157, .iconst 0), (158, .istore_n 3), (159, .iload_n 3), (160, .bipush 7), (162, .if_icmp .ge 105), (165, .aload_n 0), (166, .getfield 25), (169, .iload_n 3), (170, .aload_n 0), (171, .aload_n 0), (172, .getfield 25), (175, .iload_n 3), (176, .iaload), (177, .invokevirtual 216), (180, .iastore), (181, .aload_n 0), (182, .getfield 28), (185, .iload_n 3), (186, .aload_n 0), (187, .aload_n 0), (188, .getfield 28), (191, .iload_n 3), (192, .iaload), (193, .invokevirtual 216), (196, .iastore), (197, .aload_n 0), (198, .getfield 31), (201, .iload_n 3), (202, .aload_n 0), (203, .aload_n 0), (204, .getfield 31), (207, .iload_n 3), (208, .iaload), (209, .invokevirtual 216), (212, .iastore), (213, .aload_n 0), (214, .getfield 34), (217, .iload_n 3), (218, .aload_n 0), (219, .aload_n 0), (220, .getfield 34), (223, .iload_n 3), (224, .iaload), (225, .invokevirtual 216), (228, .iastore), (229, .aload_n 0), (230, .getfield 37), (233, .iload_n 3), (234, .aload_n 0), (235, .aload_n 0), (236, .getfield 37), (239, .iload_n 3), (240, .iaload), (241, .invokevirtual 216), (244, .iastore), (245, .aload_n 0), (246, .getfield 40), (249, .iload_n 3), (250, .aload_n 0), (251, .aload_n 0), (252, .getfield 40), (255, .iload_n 3), (256, .iaload), (257, .invokevirtual 216), (260, .iastore), (261, .iinc 3 1), (264, .goto (-105)), (267, .return_)]
set_option maxRecDepth 100000 in
theorem cokX5_carryAll : q_cok cX5_carryAll cdX5_carryAll := by unfold q_cok; decide +kernel
set_option maxRecDepth 100000 in
set_option maxHeartbeats 4000000 in
theorem ctX5_carryAll {l : Launch} {D : va_G} {cy : Nat → Nat} {b0 : Nat} {σ : q_St} {h : q_Hp} (a0 : Nat) (a1 : Nat) (x2 : Int32) {σ' : q_St} {h' : q_Hp} (ta0 : q_tag σ a0 = 6) (ta1 : q_tag σ a1 = 7) (hf : fX5_carryAll σ h a0 a1 x2 = some (σ', h')) : q_M l yX5_carryAll cX5_carryAll 4 none 1 21 0 0 D cy b0 σ h [.ref a0, .ref a1, .int x2] none σ' h' := by
  unfold fX5_carryAll at hf
  refine q_enter (by decide) (Nat.le_of_ble_eq_true rfl) ?_
  intro p e s m args below meth c C0 hr hlk hnm
  replace C0 : VC p { frames := 1, cells := 0, slots := 0, locals := 21 } s m args meth c D cy b0 4 0 0 RX5 cX5_carryAll := C0
  have n65 : ∀ (o : (q_St × q_Hp)) (s1 : (Int32 × q_St × q_Hp)), q_loop (fun s => fX5_carryAll_65  a0 a1 x2 s.1 s.2.1 s.2.2) q_N s1 = some o → V p l e { frames := 1, cells := 0, slots := 0, locals := 21 } s m args below meth c (MQ below (q_Qc D cy b0 none σ' h') args s 0 0 (fun q => b0 ≤ q)) D cy b0 4 0 0 0 0 o.1 o.2 157 [(0, .ref a0)] [] → V p l e { frames := 1, cells := 0, slots := 0, locals := 21 } s m args below meth c (MQ below (q_Qc D cy b0 none σ' h') args s 0 0 (fun q => b0 ≤ q)) D cy b0 4 0 0 0 0 s1.2.1 s1.2.2 65 [(0, .ref a0), (3, .int s1.1)] [] := by
    intro o s1 ho kx1
    refine q_loop_V (P := fun s0 => V p l e { frames := 1, cells := 0, slots := 0, locals := 21 } s m args below meth c (MQ below (q_Qc D cy b0 none σ' h') args s 0 0 (fun q => b0 ≤ q)) D cy b0 4 0 0 0 0 s0.2.1 s0.2.2 65 [(0, .ref a0), (3, .int s0.1)] []) (o := o) ?_ q_N s1 ho
    intro s2 z1 hf kb1 kr1
    obtain ⟨x3, σ, h⟩ := s2
    replace hf : fX5_carryAll_65  a0 a1 x2 x3 σ h = some z1 := hf
    unfold fX5_carryAll_65 at hf
    show V p l e { frames := 1, cells := 0, slots := 0, locals := 21 } s m args below meth c (MQ below (q_Qc D cy b0 none σ' h') args s 0 0 (fun q => b0 ≤ q)) D cy b0 4 0 0 0 0 σ h 65 [(0, .ref a0), (3, .int x3)] []
    refine v_run C0 tbX5 cokX5_carryAll (pc' := 68) (lv' := [(0, .ref a0), (3, .int x3)]) (st' := [.int (8 : Int32), .int x3]) (h' := h) 2 rfl trivial ?_
    refine v_icmp_ge C0 cokX5_carryAll rfl 157 (by decide) hf (fun _ hf => ?_) (fun _ hf => ?_)
    · obtain rfl := Option.some.inj hf
      refine v_pick [0] rfl ?_
      have hx := kr1 _ rfl
      subst hx
      exact kx1
    · obtain ⟨⟨g27, g28, g29⟩, hf⟩ := q_gu_o hf
      refine v_run C0 tbX5 cokX5_carryAll (pc' := 83) (lv' := [(0, .ref a0), (3, .int x3)]) (st' := [.int (q_int h (q_ref σ a0 1) (Int32.toNatClampNeg x3)), .ref a0, .int x3, .ref (q_ref σ a0 1)]) (h' := h) 8 rfl ⟨⟨g27, q_tn g28⟩, ⟨g27, q_tn g28⟩, ⟨g28, g29⟩, trivial⟩ ?_
      obtain ⟨r30, h30, e30, hf⟩ := q_bd2 hf
      refine v_callV C0 cokX5_carryAll rfl (rest := [.int x3, .ref (q_ref σ a0 1)]) (ctX5_carry a0 (q_int h (q_ref σ a0 1) (Int32.toNatClampNeg x3)) g27 e30) calX5_carry lkX5_216 inX5_carry dnX5_carry (ci := 5) ⟨rfl, by decide⟩ g27 rfl rfl ⟨by decide, by decide⟩ (Nat.le_of_ble_eq_true rfl) (Nat.le_refl _) (Nat.le_refl _) ?_
      obtain ⟨⟨g31, g32⟩, hf⟩ := q_gu_o hf
      refine v_run C0 tbX5 cokX5_carryAll (pc' := 99) (lv' := [(0, .ref a0), (3, .int x3)]) (st' := [.int (q_int (q_si h30 (q_ref σ a0 1) (Int32.toNatClampNeg x3) r30) (q_ref σ a0 2) (Int32.toNatClampNeg x3)), .ref a0, .int x3, .ref (q_ref σ a0 2)]) (h' := (q_si h30 (q_ref σ a0 1) (Int32.toNatClampNeg x3) r30)) 9 rfl ⟨⟨g28, g29⟩, ⟨g27, q_tn g31⟩, ⟨g27, q_tn g31⟩, ⟨g31, g32⟩, trivial⟩ ?_
      obtain ⟨r33, h33, e33, hf⟩ := q_bd2 hf
      refine v_callV C0 cokX5_carryAll rfl (rest := [.int x3, .ref (q_ref σ a0 2)]) (ctX5_carry a0 (q_int (q_si h30 (q_ref σ a0 1) (Int32.toNatClampNeg x3) r30) (q_ref σ a0 2) (Int32.toNatClampNeg x3)) g27 e33) calX5_carry lkX5_216 inX5_carry dnX5_carry (ci := 5) ⟨rfl, by decide⟩ g27 rfl rfl ⟨by decide, by decide⟩ (Nat.le_of_ble_eq_true rfl) (Nat.le_refl _) (Nat.le_refl _) ?_
      obtain ⟨⟨g34, g35⟩, hf⟩ := q_gu_o hf
      refine v_run C0 tbX5 cokX5_carryAll (pc' := 115) (lv' := [(0, .ref a0), (3, .int x3)]) (st' := [.int (q_int (q_si h33 (q_ref σ a0 2) (Int32.toNatClampNeg x3) r33) (q_ref σ a0 3) (Int32.toNatClampNeg x3)), .ref a0, .int x3, .ref (q_ref σ a0 3)]) (h' := (q_si h33 (q_ref σ a0 2) (Int32.toNatClampNeg x3) r33)) 9 rfl ⟨⟨g31, g32⟩, ⟨g27, q_tn g34⟩, ⟨g27, q_tn g34⟩, ⟨g34, g35⟩, trivial⟩ ?_
      obtain ⟨r36, h36, e36, hf⟩ := q_bd2 hf
      refine v_callV C0 cokX5_carryAll rfl (rest := [.int x3, .ref (q_ref σ a0 3)]) (ctX5_carry a0 (q_int (q_si h33 (q_ref σ a0 2) (Int32.toNatClampNeg x3) r33) (q_ref σ a0 3) (Int32.toNatClampNeg x3)) g27 e36) calX5_carry lkX5_216 inX5_carry dnX5_carry (ci := 5) ⟨rfl, by decide⟩ g27 rfl rfl ⟨by decide, by decide⟩ (Nat.le_of_ble_eq_true rfl) (Nat.le_refl _) (Nat.le_refl _) ?_
      obtain ⟨⟨g37, g38⟩, hf⟩ := q_gu_o hf
      refine v_run C0 tbX5 cokX5_carryAll (pc' := 131) (lv' := [(0, .ref a0), (3, .int x3)]) (st' := [.int (q_int (q_si h36 (q_ref σ a0 3) (Int32.toNatClampNeg x3) r36) (q_ref σ a0 4) (Int32.toNatClampNeg x3)), .ref a0, .int x3, .ref (q_ref σ a0 4)]) (h' := (q_si h36 (q_ref σ a0 3) (Int32.toNatClampNeg x3) r36)) 9 rfl ⟨⟨g34, g35⟩, ⟨g27, q_tn g37⟩, ⟨g27, q_tn g37⟩, ⟨g37, g38⟩, trivial⟩ ?_
      obtain ⟨r39, h39, e39, hf⟩ := q_bd2 hf
      refine v_callV C0 cokX5_carryAll rfl (rest := [.int x3, .ref (q_ref σ a0 4)]) (ctX5_carry a0 (q_int (q_si h36 (q_ref σ a0 3) (Int32.toNatClampNeg x3) r36) (q_ref σ a0 4) (Int32.toNatClampNeg x3)) g27 e39) calX5_carry lkX5_216 inX5_carry dnX5_carry (ci := 5) ⟨rfl, by decide⟩ g27 rfl rfl ⟨by decide, by decide⟩ (Nat.le_of_ble_eq_true rfl) (Nat.le_refl _) (Nat.le_refl _) ?_
      obtain ⟨⟨g40, g41⟩, hf⟩ := q_gu_o hf
      refine v_run C0 tbX5 cokX5_carryAll (pc' := 147) (lv' := [(0, .ref a0), (3, .int x3)]) (st' := [.int (q_int (q_si h39 (q_ref σ a0 4) (Int32.toNatClampNeg x3) r39) (q_ref σ a0 5) (Int32.toNatClampNeg x3)), .ref a0, .int x3, .ref (q_ref σ a0 5)]) (h' := (q_si h39 (q_ref σ a0 4) (Int32.toNatClampNeg x3) r39)) 9 rfl ⟨⟨g37, g38⟩, ⟨g27, q_tn g40⟩, ⟨g27, q_tn g40⟩, ⟨g40, g41⟩, trivial⟩ ?_
      obtain ⟨r42, h42, e42, hf⟩ := q_bd2 hf
      refine v_callV C0 cokX5_carryAll rfl (rest := [.int x3, .ref (q_ref σ a0 5)]) (ctX5_carry a0 (q_int (q_si h39 (q_ref σ a0 4) (Int32.toNatClampNeg x3) r39) (q_ref σ a0 5) (Int32.toNatClampNeg x3)) g27 e42) calX5_carry lkX5_216 inX5_carry dnX5_carry (ci := 5) ⟨rfl, by decide⟩ g27 rfl rfl ⟨by decide, by decide⟩ (Nat.le_of_ble_eq_true rfl) (Nat.le_refl _) (Nat.le_refl _) ?_
      refine v_run C0 tbX5 cokX5_carryAll (pc' := 65) (lv' := [(3, .int (x3 + (1 : Int32))), (0, .ref a0)]) (st' := []) (h' := (q_si h42 (q_ref σ a0 5) (Int32.toNatClampNeg x3) r42)) 3 rfl ⟨⟨g40, g41⟩, trivial⟩ ?_
      obtain rfl := Option.some.inj hf
      refine v_pick [1, 0] rfl ?_
      exact kb1 _ rfl
  have n159 : ∀ (o : (q_St × q_Hp)) (s1 : (Int32 × q_St × q_Hp)), q_loop (fun s => fX5_carryAll_159  a0 a1 x2 s.1 s.2.1 s.2.2) q_N s1 = some o → V p l e { frames := 1, cells := 0, slots := 0, locals := 21 } s m args below meth c (MQ below (q_Qc D cy b0 none σ' h') args s 0 0 (fun q => b0 ≤ q)) D cy b0 4 0 0 0 0 o.1 o.2 267 [] [] → V p l e { frames := 1, cells := 0, slots := 0, locals := 21 } s m args below meth c (MQ below (q_Qc D cy b0 none σ' h') args s 0 0 (fun q => b0 ≤ q)) D cy b0 4 0 0 0 0 s1.2.1 s1.2.2 159 [(0, .ref a0), (3, .int s1.1)] [] := by
    intro o s1 ho kx1
    refine q_loop_V (P := fun s0 => V p l e { frames := 1, cells := 0, slots := 0, locals := 21 } s m args below meth c (MQ below (q_Qc D cy b0 none σ' h') args s 0 0 (fun q => b0 ≤ q)) D cy b0 4 0 0 0 0 s0.2.1 s0.2.2 159 [(0, .ref a0), (3, .int s0.1)] []) (o := o) ?_ q_N s1 ho
    intro s2 z1 hf kb1 kr1
    obtain ⟨x3, σ, h⟩ := s2
    replace hf : fX5_carryAll_159  a0 a1 x2 x3 σ h = some z1 := hf
    unfold fX5_carryAll_159 at hf
    show V p l e { frames := 1, cells := 0, slots := 0, locals := 21 } s m args below meth c (MQ below (q_Qc D cy b0 none σ' h') args s 0 0 (fun q => b0 ≤ q)) D cy b0 4 0 0 0 0 σ h 159 [(0, .ref a0), (3, .int x3)] []
    refine v_run C0 tbX5 cokX5_carryAll (pc' := 162) (lv' := [(0, .ref a0), (3, .int x3)]) (st' := [.int (7 : Int32), .int x3]) (h' := h) 2 rfl trivial ?_
    refine v_icmp_ge C0 cokX5_carryAll rfl 267 (by decide) hf (fun _ hf => ?_) (fun _ hf => ?_)
    · obtain rfl := Option.some.inj hf
      refine v_pick [] rfl ?_
      have hx := kr1 _ rfl
      subst hx
      exact kx1
    · obtain ⟨⟨g8, g9, g10⟩, hf⟩ := q_gu_o hf
      refine v_run C0 tbX5 cokX5_carryAll (pc' := 177) (lv' := [(0, .ref a0), (3, .int x3)]) (st' := [.int (q_int h (q_ref σ a0 7) (Int32.toNatClampNeg x3)), .ref a0, .int x3, .ref (q_ref σ a0 7)]) (h' := h) 8 rfl ⟨⟨g8, q_tn g9⟩, ⟨g8, q_tn g9⟩, ⟨g9, g10⟩, trivial⟩ ?_
      obtain ⟨r11, h11, e11, hf⟩ := q_bd2 hf
      refine v_callV C0 cokX5_carryAll rfl (rest := [.int x3, .ref (q_ref σ a0 7)]) (ctX5_carry a0 (q_int h (q_ref σ a0 7) (Int32.toNatClampNeg x3)) g8 e11) calX5_carry lkX5_216 inX5_carry dnX5_carry (ci := 5) ⟨rfl, by decide⟩ g8 rfl rfl ⟨by decide, by decide⟩ (Nat.le_of_ble_eq_true rfl) (Nat.le_refl _) (Nat.le_refl _) ?_
      obtain ⟨⟨g12, g13⟩, hf⟩ := q_gu_o hf
      refine v_run C0 tbX5 cokX5_carryAll (pc' := 193) (lv' := [(0, .ref a0), (3, .int x3)]) (st' := [.int (q_int (q_si h11 (q_ref σ a0 7) (Int32.toNatClampNeg x3) r11) (q_ref σ a0 8) (Int32.toNatClampNeg x3)), .ref a0, .int x3, .ref (q_ref σ a0 8)]) (h' := (q_si h11 (q_ref σ a0 7) (Int32.toNatClampNeg x3) r11)) 9 rfl ⟨⟨g9, g10⟩, ⟨g8, q_tn g12⟩, ⟨g8, q_tn g12⟩, ⟨g12, g13⟩, trivial⟩ ?_
      obtain ⟨r14, h14, e14, hf⟩ := q_bd2 hf
      refine v_callV C0 cokX5_carryAll rfl (rest := [.int x3, .ref (q_ref σ a0 8)]) (ctX5_carry a0 (q_int (q_si h11 (q_ref σ a0 7) (Int32.toNatClampNeg x3) r11) (q_ref σ a0 8) (Int32.toNatClampNeg x3)) g8 e14) calX5_carry lkX5_216 inX5_carry dnX5_carry (ci := 5) ⟨rfl, by decide⟩ g8 rfl rfl ⟨by decide, by decide⟩ (Nat.le_of_ble_eq_true rfl) (Nat.le_refl _) (Nat.le_refl _) ?_
      obtain ⟨⟨g15, g16⟩, hf⟩ := q_gu_o hf
      refine v_run C0 tbX5 cokX5_carryAll (pc' := 209) (lv' := [(0, .ref a0), (3, .int x3)]) (st' := [.int (q_int (q_si h14 (q_ref σ a0 8) (Int32.toNatClampNeg x3) r14) (q_ref σ a0 9) (Int32.toNatClampNeg x3)), .ref a0, .int x3, .ref (q_ref σ a0 9)]) (h' := (q_si h14 (q_ref σ a0 8) (Int32.toNatClampNeg x3) r14)) 9 rfl ⟨⟨g12, g13⟩, ⟨g8, q_tn g15⟩, ⟨g8, q_tn g15⟩, ⟨g15, g16⟩, trivial⟩ ?_
      obtain ⟨r17, h17, e17, hf⟩ := q_bd2 hf
      refine v_callV C0 cokX5_carryAll rfl (rest := [.int x3, .ref (q_ref σ a0 9)]) (ctX5_carry a0 (q_int (q_si h14 (q_ref σ a0 8) (Int32.toNatClampNeg x3) r14) (q_ref σ a0 9) (Int32.toNatClampNeg x3)) g8 e17) calX5_carry lkX5_216 inX5_carry dnX5_carry (ci := 5) ⟨rfl, by decide⟩ g8 rfl rfl ⟨by decide, by decide⟩ (Nat.le_of_ble_eq_true rfl) (Nat.le_refl _) (Nat.le_refl _) ?_
      obtain ⟨⟨g18, g19⟩, hf⟩ := q_gu_o hf
      refine v_run C0 tbX5 cokX5_carryAll (pc' := 225) (lv' := [(0, .ref a0), (3, .int x3)]) (st' := [.int (q_int (q_si h17 (q_ref σ a0 9) (Int32.toNatClampNeg x3) r17) (q_ref σ a0 10) (Int32.toNatClampNeg x3)), .ref a0, .int x3, .ref (q_ref σ a0 10)]) (h' := (q_si h17 (q_ref σ a0 9) (Int32.toNatClampNeg x3) r17)) 9 rfl ⟨⟨g15, g16⟩, ⟨g8, q_tn g18⟩, ⟨g8, q_tn g18⟩, ⟨g18, g19⟩, trivial⟩ ?_
      obtain ⟨r20, h20, e20, hf⟩ := q_bd2 hf
      refine v_callV C0 cokX5_carryAll rfl (rest := [.int x3, .ref (q_ref σ a0 10)]) (ctX5_carry a0 (q_int (q_si h17 (q_ref σ a0 9) (Int32.toNatClampNeg x3) r17) (q_ref σ a0 10) (Int32.toNatClampNeg x3)) g8 e20) calX5_carry lkX5_216 inX5_carry dnX5_carry (ci := 5) ⟨rfl, by decide⟩ g8 rfl rfl ⟨by decide, by decide⟩ (Nat.le_of_ble_eq_true rfl) (Nat.le_refl _) (Nat.le_refl _) ?_
      obtain ⟨⟨g21, g22⟩, hf⟩ := q_gu_o hf
      refine v_run C0 tbX5 cokX5_carryAll (pc' := 241) (lv' := [(0, .ref a0), (3, .int x3)]) (st' := [.int (q_int (q_si h20 (q_ref σ a0 10) (Int32.toNatClampNeg x3) r20) (q_ref σ a0 11) (Int32.toNatClampNeg x3)), .ref a0, .int x3, .ref (q_ref σ a0 11)]) (h' := (q_si h20 (q_ref σ a0 10) (Int32.toNatClampNeg x3) r20)) 9 rfl ⟨⟨g18, g19⟩, ⟨g8, q_tn g21⟩, ⟨g8, q_tn g21⟩, ⟨g21, g22⟩, trivial⟩ ?_
      obtain ⟨r23, h23, e23, hf⟩ := q_bd2 hf
      refine v_callV C0 cokX5_carryAll rfl (rest := [.int x3, .ref (q_ref σ a0 11)]) (ctX5_carry a0 (q_int (q_si h20 (q_ref σ a0 10) (Int32.toNatClampNeg x3) r20) (q_ref σ a0 11) (Int32.toNatClampNeg x3)) g8 e23) calX5_carry lkX5_216 inX5_carry dnX5_carry (ci := 5) ⟨rfl, by decide⟩ g8 rfl rfl ⟨by decide, by decide⟩ (Nat.le_of_ble_eq_true rfl) (Nat.le_refl _) (Nat.le_refl _) ?_
      obtain ⟨⟨g24, g25⟩, hf⟩ := q_gu_o hf
      refine v_run C0 tbX5 cokX5_carryAll (pc' := 257) (lv' := [(0, .ref a0), (3, .int x3)]) (st' := [.int (q_int (q_si h23 (q_ref σ a0 11) (Int32.toNatClampNeg x3) r23) (q_ref σ a0 12) (Int32.toNatClampNeg x3)), .ref a0, .int x3, .ref (q_ref σ a0 12)]) (h' := (q_si h23 (q_ref σ a0 11) (Int32.toNatClampNeg x3) r23)) 9 rfl ⟨⟨g21, g22⟩, ⟨g8, q_tn g24⟩, ⟨g8, q_tn g24⟩, ⟨g24, g25⟩, trivial⟩ ?_
      obtain ⟨r26, h26, e26, hf⟩ := q_bd2 hf
      refine v_callV C0 cokX5_carryAll rfl (rest := [.int x3, .ref (q_ref σ a0 12)]) (ctX5_carry a0 (q_int (q_si h23 (q_ref σ a0 11) (Int32.toNatClampNeg x3) r23) (q_ref σ a0 12) (Int32.toNatClampNeg x3)) g8 e26) calX5_carry lkX5_216 inX5_carry dnX5_carry (ci := 5) ⟨rfl, by decide⟩ g8 rfl rfl ⟨by decide, by decide⟩ (Nat.le_of_ble_eq_true rfl) (Nat.le_refl _) (Nat.le_refl _) ?_
      refine v_run C0 tbX5 cokX5_carryAll (pc' := 159) (lv' := [(3, .int (x3 + (1 : Int32))), (0, .ref a0)]) (st' := []) (h' := (q_si h26 (q_ref σ a0 12) (Int32.toNatClampNeg x3) r26)) 3 rfl ⟨⟨g24, g25⟩, trivial⟩ ?_
      obtain rfl := Option.some.inj hf
      refine v_pick [1, 0] rfl ?_
      exact kb1 _ rfl
  refine v_run C0 tbX5 cokX5_carryAll (pc' := 2) (lv' := [(0, .ref a0), (1, .ref a1), (2, .int x2)]) (st' := [.ref a1, .ref a0]) (h' := h) 2 rfl trivial ?_
  refine v_putr C0 tbX5 cokX5_carryAll rfl (ci := 5) (k := 34) rfl rfl (Or.inl rfl) ta0 (q_tn ta1) ?_
  obtain ⟨g1, hf⟩ := q_gu_o hf
  refine v_run C0 tbX5 cokX5_carryAll (pc' := 21) (lv' := [(0, .ref a0), (1, .ref a1), (2, .int x2)]) (st' := [.int (q_int (q_si (q_si h a0 33 x2) a0 32 (0 : Int32)) a0 0), .ref a0, .ref a0]) (h' := (q_si (q_si h a0 33 x2) a0 32 (0 : Int32))) 10 rfl ⟨⟨ta0, g1⟩, ta0, ta0, trivial⟩ ?_
  obtain ⟨r2, h2, e2, hf⟩ := q_bd2 hf
  refine v_callV C0 cokX5_carryAll rfl (rest := [.ref a0]) (ctX5_carry a0 (q_int (q_si (q_si h a0 33 x2) a0 32 (0 : Int32)) a0 0) ta0 e2) calX5_carry lkX5_216 inX5_carry dnX5_carry (ci := 5) ⟨rfl, by decide⟩ ta0 rfl rfl ⟨by decide, by decide⟩ (Nat.le_of_ble_eq_true rfl) (Nat.le_refl _) (Nat.le_refl _) ?_
  refine v_run C0 tbX5 cokX5_carryAll (pc' := 33) (lv' := [(0, .ref a0), (1, .ref a1), (2, .int x2)]) (st' := [.int (q_int (q_si h2 a0 0 r2) a0 6), .ref a0, .ref a0]) (h' := (q_si h2 a0 0 r2)) 5 rfl ⟨ta0, ta0, trivial⟩ ?_
  obtain ⟨r3, h3, e3, hf⟩ := q_bd2 hf
  refine v_callV C0 cokX5_carryAll rfl (rest := [.ref a0]) (ctX5_carry a0 (q_int (q_si h2 a0 0 r2) a0 6) ta0 e3) calX5_carry lkX5_216 inX5_carry dnX5_carry (ci := 5) ⟨rfl, by decide⟩ ta0 rfl rfl ⟨by decide, by decide⟩ (Nat.le_of_ble_eq_true rfl) (Nat.le_refl _) (Nat.le_refl _) ?_
  refine v_run C0 tbX5 cokX5_carryAll (pc' := 45) (lv' := [(0, .ref a0), (1, .ref a1), (2, .int x2)]) (st' := [.int (q_int (q_si h3 a0 6 r3) a0 13), .ref a0, .ref a0]) (h' := (q_si h3 a0 6 r3)) 5 rfl ⟨ta0, ta0, trivial⟩ ?_
  obtain ⟨r4, h4, e4, hf⟩ := q_bd2 hf
  refine v_callV C0 cokX5_carryAll rfl (rest := [.ref a0]) (ctX5_carry a0 (q_int (q_si h3 a0 6 r3) a0 13) ta0 e4) calX5_carry lkX5_216 inX5_carry dnX5_carry (ci := 5) ⟨rfl, by decide⟩ ta0 rfl rfl ⟨by decide, by decide⟩ (Nat.le_of_ble_eq_true rfl) (Nat.le_refl _) (Nat.le_refl _) ?_
  refine v_run C0 tbX5 cokX5_carryAll (pc' := 57) (lv' := [(0, .ref a0), (1, .ref a1), (2, .int x2)]) (st' := [.int (q_int (q_si h4 a0 13 r4) a0 14), .ref a0, .ref a0]) (h' := (q_si h4 a0 13 r4)) 5 rfl ⟨ta0, ta0, trivial⟩ ?_
  obtain ⟨r5, h5, e5, hf⟩ := q_bd2 hf
  refine v_callV C0 cokX5_carryAll rfl (rest := [.ref a0]) (ctX5_carry a0 (q_int (q_si h4 a0 13 r4) a0 14) ta0 e5) calX5_carry lkX5_216 inX5_carry dnX5_carry (ci := 5) ⟨rfl, by decide⟩ ta0 rfl rfl ⟨by decide, by decide⟩ (Nat.le_of_ble_eq_true rfl) (Nat.le_refl _) (Nat.le_refl _) ?_
  refine v_run C0 tbX5 cokX5_carryAll (pc' := 65) (lv' := [(3, .int (0 : Int32)), (0, .ref a0), (1, .ref a1), (2, .int x2)]) (st' := []) (h' := (q_si h5 a0 14 r5)) 3 rfl ⟨ta0, trivial⟩ ?_
  obtain ⟨o6, eo6, hf⟩ := q_bd hf
  refine v_pick [1, 0] rfl ?_
  refine n65 o6 ((0 : Int32), (q_sr σ a0 34 a1), (q_si h5 a0 14 r5)) eo6 ?_
  refine v_run C0 tbX5 cokX5_carryAll (pc' := 159) (lv' := [(3, .int (0 : Int32)), (0, .ref a0)]) (st' := []) (h' := o6.2) 2 rfl trivial ?_
  obtain ⟨o7, eo7, hf⟩ := q_bd hf
  refine v_pick [1, 0] rfl ?_
  refine n159 o7 ((0 : Int32), o6.1, o6.2) eo7 ?_
  obtain ⟨rfl, rfl⟩ := Prod.mk.inj (Option.some.inj hf)
  exact v_vret C0 cokX5_carryAll hr hlk rfl
-- BackByNoonOnMondayModel.open()V
noncomputable def fX5_open (σ : q_St) (h : q_Hp) (a0 : Nat) : Option (q_St × q_Hp) := q_gu ((q_tag σ (q_ref σ a0 29) = 7)) ((q_b2 (fX5_carryAll σ h a0 (q_ref σ a0 29) (1 : Int32)) fun σ2 h2 => some (σ2, h2)))
def cdX5_open : q_Cd := [(0, .aload_n 0), (1, .aload_n 0), (2, .getfield 71), (5, .iconst 1), (6, .invokevirtual 219), (9, .return_)]
set_option maxRecDepth 100000 in
theorem cokX5_open : q_cok cX5_open cdX5_open := by unfold q_cok; decide +kernel
set_option maxRecDepth 100000 in
set_option maxHeartbeats 4000000 in
theorem ctX5_open {l : Launch} {D : va_G} {cy : Nat → Nat} {b0 : Nat} {σ : q_St} {h : q_Hp} (a0 : Nat) {σ' : q_St} {h' : q_Hp} (ta0 : q_tag σ a0 = 6) (hf : fX5_open σ h a0 = some (σ', h')) : q_M l yX5_open cX5_open 1 none 2 44 0 0 D cy b0 σ h [.ref a0] none σ' h' := by
  unfold fX5_open at hf
  refine q_enter (by decide) (Nat.le_of_ble_eq_true rfl) ?_
  intro p e s m args below meth c C0 hr hlk hnm
  replace C0 : VC p { frames := 2, cells := 0, slots := 0, locals := 44 } s m args meth c D cy b0 1 0 0 RX5 cX5_open := C0
  obtain ⟨g1, hf⟩ := q_gu_o hf
  refine v_run C0 tbX5 cokX5_open (pc' := 6) (lv' := [(0, .ref a0)]) (st' := [.int (1 : Int32), .ref (q_ref σ a0 29), .ref a0]) (h' := h) 4 rfl ⟨⟨ta0, q_tn g1⟩, trivial⟩ ?_
  obtain ⟨σ2, h2, e2, hf⟩ := q_bd2 hf
  refine v_callV C0 cokX5_open rfl (rest := []) (ctX5_carryAll a0 (q_ref σ a0 29) (1 : Int32) ta0 g1 e2) calX5_carryAll lkX5_219 inX5_carryAll dnX5_carryAll (ci := 5) ⟨rfl, by decide⟩ ta0 rfl rfl ⟨by decide, by decide⟩ (Nat.le_of_ble_eq_true rfl) (Nat.le_refl _) (Nat.le_refl _) ?_
  obtain ⟨rfl, rfl⟩ := Prod.mk.inj (Option.some.inj hf)
  exact v_vret C0 cokX5_open hr hlk rfl
-- BackByNoonOnMondayModel.close()V
noncomputable def fX5_close (σ : q_St) (h : q_Hp) (a0 : Nat) : Option (q_St × q_Hp) := q_gu ((q_tag σ (q_ref σ a0 29) = 7)) ((q_b2 (fX5_carryAll σ h a0 (q_ref σ a0 29) (0 : Int32)) fun σ2 h2 => some (σ2, h2)))
def cdX5_close : q_Cd := [(0, .aload_n 0), (1, .aload_n 0), (2, .getfield 71), (5, .iconst 0), (6, .invokevirtual 219), (9, .return_)]
set_option maxRecDepth 100000 in
theorem cokX5_close : q_cok cX5_close cdX5_close := by unfold q_cok; decide +kernel
set_option maxRecDepth 100000 in
set_option maxHeartbeats 4000000 in
theorem ctX5_close {l : Launch} {D : va_G} {cy : Nat → Nat} {b0 : Nat} {σ : q_St} {h : q_Hp} (a0 : Nat) {σ' : q_St} {h' : q_Hp} (ta0 : q_tag σ a0 = 6) (hf : fX5_close σ h a0 = some (σ', h')) : q_M l yX5_close cX5_close 1 none 2 44 0 0 D cy b0 σ h [.ref a0] none σ' h' := by
  unfold fX5_close at hf
  refine q_enter (by decide) (Nat.le_of_ble_eq_true rfl) ?_
  intro p e s m args below meth c C0 hr hlk hnm
  replace C0 : VC p { frames := 2, cells := 0, slots := 0, locals := 44 } s m args meth c D cy b0 1 0 0 RX5 cX5_close := C0
  obtain ⟨g1, hf⟩ := q_gu_o hf
  refine v_run C0 tbX5 cokX5_close (pc' := 6) (lv' := [(0, .ref a0)]) (st' := [.int (0 : Int32), .ref (q_ref σ a0 29), .ref a0]) (h' := h) 4 rfl ⟨⟨ta0, q_tn g1⟩, trivial⟩ ?_
  obtain ⟨σ2, h2, e2, hf⟩ := q_bd2 hf
  refine v_callV C0 cokX5_close rfl (rest := []) (ctX5_carryAll a0 (q_ref σ a0 29) (0 : Int32) ta0 g1 e2) calX5_carryAll lkX5_219 inX5_carryAll dnX5_carryAll (ci := 5) ⟨rfl, by decide⟩ ta0 rfl rfl ⟨by decide, by decide⟩ (Nat.le_of_ble_eq_true rfl) (Nat.le_refl _) (Nat.le_refl _) ?_
  obtain ⟨rfl, rfl⟩ := Prod.mk.inj (Option.some.inj hf)
  exact v_vret C0 cokX5_close hr hlk rfl
-- BackByNoonOnMondayModel.shop(I)I
noncomputable def fX5_shop_84 (σ : q_St) (h : q_Hp) (a0 : Nat) (x1 : Int32) : Option ((q_St × q_Hp) ⊕ (q_St × q_Hp)) := q_gu ((q_tag σ a0 = 6)) (((fX5_readStatement σ h a0).bind fun h21 => some (Sum.inl (σ, h21))))
noncomputable def fX5_shop_57 (a0 : Nat) (x1 : Int32) (σ : q_St) (h : q_Hp) : Option ((q_St × q_Hp) ⊕ (q_St × q_Hp)) := q_gu ((q_tag σ a0 = 6)) ((if (q_int h a0 24) = 0 then (if (q_int h a0 25) = 0 then fX5_shop_84  σ h a0 x1 else q_gu ((q_tag σ (q_ref σ a0 19) = 7) ∧ (vp_in x1 (q_len σ (q_ref σ a0 19)))) ((if (q_int h (q_ref σ a0 19) (Int32.toNatClampNeg x1)) ≤ (q_int h a0 23) then some (Sum.inr (σ, h)) else fX5_shop_84  σ h a0 x1))) else some (Sum.inr (σ, h))))
noncomputable def fX5_shop_113 (a0 : Nat) (x1 : Int32) (x3 : Int32) (σ : q_St) (h : q_Hp) : Option ((Int32 × q_St × q_Hp) ⊕ ((q_St × q_Hp) ⊕ (Int32 × q_St × q_Hp))) := q_gu ((q_tag σ a0 = 6)) ((if (q_int h a0 25) ≤ x3 then some (Sum.inr (Sum.inl (σ, h))) else (q_b2 (fX5_comesTold σ h a0 x3) fun r12 h12 => (if r12 = 0 then (q_b2 (fX5_close σ h12 a0) fun σ13 h13 => q_gu ((q_tag σ13 a0 = 6) ∧ (q_tag σ13 (q_ref σ13 a0 26) = 7) ∧ (vp_in x3 (q_len σ13 (q_ref σ13 a0 26)))) (some (Sum.inr (Sum.inr (((-2000 : Int32) - (q_int h13 (q_ref σ13 a0 26) (Int32.toNatClampNeg x3))), σ13, h13))))) else some (Sum.inl ((x3 + (1 : Int32)), σ, h12))))))
noncomputable def fX5_shop_91 (σ : q_St) (h : q_Hp) (a0 : Nat) (x1 : Int32) : Option (Int32 × q_St × q_Hp) := q_gu ((q_tag σ a0 = 6)) ((if (q_int h a0 24) = 0 then (q_b2 (fX5_open σ h a0) fun σ7 h7 => (q_loop (fun s => fX5_shop_113  a0 x1 s.1 s.2.1 s.2.2) q_N ((0 : Int32), σ7, h7)).bind fun o8 => q_el o8 fun w9 => q_gu ((q_tag w9.1 a0 = 6)) (some ((q_int w9.2 a0 25), w9.1, w9.2))) else some (((-1000 : Int32) - (q_int h a0 23)), σ, h)))
noncomputable def fX5_shop_30 (σ : q_St) (h : q_Hp) (a0 : Nat) (x1 : Int32) (s0 : Int32) : Option (Int32 × q_St × q_Hp) := (if 0 ≤ s0 then q_gu ((q_tag σ a0 = 6)) ((q_loop (fun s => fX5_shop_57  a0 x1 s.1 s.2) q_N (σ, (q_si (q_si (q_si (q_si h a0 22 x1) a0 23 (0 : Int32)) a0 24 (0 : Int32)) a0 25 (0 : Int32)))).bind fun o5 => fX5_shop_91  o5.1 o5.2 a0 x1) else some (s0, σ, h))
noncomputable def fX5_shop_29 (σ : q_St) (h : q_Hp) (a0 : Nat) (x1 : Int32) (x2 : Int32) : Option (Int32 × q_St × q_Hp) := fX5_shop_30  σ h a0 x1 x2
noncomputable def fX5_shop (σ : q_St) (h : q_Hp) (a0 : Nat) (x1 : Int32) : Option (Int32 × q_St × q_Hp) := ((fX5_wrongRow σ (q_si h a0 21 (0 : Int32)) a0 x1).bind fun r1 => (if r1 = 0 then q_gu ((q_tag σ (q_ref σ a0 18) = 7) ∧ (vp_in x1 (q_len σ (q_ref σ a0 18)))) ((if (q_int (q_si h a0 21 (0 : Int32)) (q_ref σ a0 18) (Int32.toNatClampNeg x1)) = 0 then fX5_shop_29  σ (q_si h a0 21 (0 : Int32)) a0 x1 r1 else fX5_shop_30  σ (q_si h a0 21 (0 : Int32)) a0 x1 (-12 : Int32))) else fX5_shop_29  σ (q_si h a0 21 (0 : Int32)) a0 x1 r1))
def cdX5_shop : q_Cd := [(0, .aload_n 0), (1, .iconst 0), (2, .putfield 89), (5, .aload_n 0), (6, .iload_n 1), (7, .invokevirtual 192), (10, .istore_n 2), (11, .iload_n 2), (12, .ifCond .ne 17), (15, .aload_n 0), (16, .getfield 52), (19, .iload_n 1), (20, .iaload), (21, .ifCond .eq 8), (24, .bipush (-12)), (26, .goto 4), (29, .iload_n 2), (30, .istore_n 2), (31, .iload_n 2), (32, .ifCond .ge 5), (35, .iload_n 2), (36, .ireturn), (37, .aload_n 0), (38, .iload_n 1), (39, .putfield 136), (42, .aload_n 0), (43, .iconst 0), (44, .putfield 133), (47, .aload_n 0), (48, .iconst 0), (49, .putfield 139), (52, .aload_n 0), (53, .iconst 0), (54, .putfield 154), (57, .aload_n 0), (58, .getfield 139), (61, .ifCond .ne 30), (64, .aload_n 0), (65, .getfield 154), (68, .ifCond .eq 16), (71, .aload_n 0), (72, .getfield 133), (75, .aload_n 0), (76, .getfield 55), (79, .iload_n 1), (80, .iaload), (81, .if_icmp .ge 10), (84, .aload_n 0), (85, .invokevirtual 195), (88, .goto (-31)), (91, .aload_n 0), (92, .getfield 139), (95, .ifCond .eq 12), (98, .sipush (-1000)), (101, .aload_n 0), (102, .getfield 133), (105, .isub), (106, .ireturn), (107, .aload_n 0), (108, .invokevirtual 198), (111, .iconst 0), (112, .istore_n 3), (113, .iload_n 3), (114, .aload_n 0), (115, .getfield 154), (118, .if_icmp .ge 32), (121, .aload_n 0), (122, .iload_n 3), (123, .invokevirtual 201), (126, .ifCond .ne 18), (129, .aload_n 0), (130, .invokevirtual 204), (133, .sipush (-2000)), (136, .aload_n 0), (137, .getfield 62), (140, .iload_n 3), (141, .iaload), (142, .isub), (143, .ireturn), (144, .iinc 3 1), (147, .goto (-34)), (150, .aload_n 0), (151, .getfield 154), (154, .ireturn)]
set_option maxRecDepth 100000 in
theorem cokX5_shop : q_cok cX5_shop cdX5_shop := by unfold q_cok; decide +kernel
set_option maxRecDepth 100000 in
set_option maxHeartbeats 4000000 in
theorem ctX5_shop {l : Launch} {D : va_G} {cy : Nat → Nat} {b0 : Nat} {σ : q_St} {h : q_Hp} (a0 : Nat) (x1 : Int32) {r : Int32} {σ' : q_St} {h' : q_Hp} (ta0 : q_tag σ a0 = 6) (hf : fX5_shop σ h a0 x1 = some (r, σ', h')) : q_M l yX5_shop cX5_shop 4 (some .int) 4 93 0 0 D cy b0 σ h [.ref a0, .int x1] (some (.int r)) σ' h' := by
  unfold fX5_shop at hf
  refine q_enter (by decide) (Nat.le_of_ble_eq_true rfl) ?_
  intro p e s m args below meth c C0 hr hlk hnm
  replace C0 : VC p { frames := 4, cells := 0, slots := 0, locals := 93 } s m args meth c D cy b0 4 0 0 RX5 cX5_shop := C0
  have n57 : ∀ (o : (q_St × q_Hp)) (s1 : (q_St × q_Hp)), q_loop (fun s => fX5_shop_57  a0 x1 s.1 s.2) q_N s1 = some o → V p l e { frames := 4, cells := 0, slots := 0, locals := 93 } s m args below meth c (MQ below (q_Qc D cy b0 (some (.int r)) σ' h') args s 0 0 (fun q => b0 ≤ q)) D cy b0 4 0 0 0 0 o.1 o.2 91 [(0, .ref a0)] [] → V p l e { frames := 4, cells := 0, slots := 0, locals := 93 } s m args below meth c (MQ below (q_Qc D cy b0 (some (.int r)) σ' h') args s 0 0 (fun q => b0 ≤ q)) D cy b0 4 0 0 0 0 s1.1 s1.2 57 [(0, .ref a0), (1, .int x1)] [] := by
    intro o s1 ho kx1
    refine q_loop_V (P := fun s0 => V p l e { frames := 4, cells := 0, slots := 0, locals := 93 } s m args below meth c (MQ below (q_Qc D cy b0 (some (.int r)) σ' h') args s 0 0 (fun q => b0 ≤ q)) D cy b0 4 0 0 0 0 s0.1 s0.2 57 [(0, .ref a0), (1, .int x1)] []) (o := o) ?_ q_N s1 ho
    intro s2 z1 hf kb1 kr1
    obtain ⟨σ, h⟩ := s2
    replace hf : fX5_shop_57  a0 x1 σ h = some z1 := hf
    unfold fX5_shop_57 at hf
    show V p l e { frames := 4, cells := 0, slots := 0, locals := 93 } s m args below meth c (MQ below (q_Qc D cy b0 (some (.int r)) σ' h') args s 0 0 (fun q => b0 ≤ q)) D cy b0 4 0 0 0 0 σ h 57 [(0, .ref a0), (1, .int x1)] []
    have n84 : ∀ (σ : q_St) (h : q_Hp), fX5_shop_84  σ h a0 x1 = some z1 → V p l e { frames := 4, cells := 0, slots := 0, locals := 93 } s m args below meth c (MQ below (q_Qc D cy b0 (some (.int r)) σ' h') args s 0 0 (fun q => b0 ≤ q)) D cy b0 4 0 0 0 0 σ h 84 [(0, .ref a0), (1, .int x1)] [] := by
      intro σ h hf
      unfold fX5_shop_84 at hf
      refine v_run C0 tbX5 cokX5_shop (pc' := 85) (lv' := [(0, .ref a0), (1, .int x1)]) (st' := [.ref a0]) (h' := h) 1 rfl trivial ?_
      obtain ⟨g20, hf⟩ := q_gu_o hf
      obtain ⟨h21, e21, hf⟩ := q_bd hf
      refine v_callV C0 cokX5_shop rfl (rest := []) (ctX5_readStatement a0 g20 e21) calX5_readStatement lkX5_195 inX5_readStatement dnX5_readStatement (ci := 5) ⟨rfl, by decide⟩ g20 rfl rfl ⟨by decide, by decide⟩ (Nat.le_of_ble_eq_true rfl) (Nat.le_refl _) (Nat.le_refl _) ?_
      refine v_run C0 tbX5 cokX5_shop (pc' := 57) (lv' := [(0, .ref a0), (1, .int x1)]) (st' := []) (h' := h21) 1 rfl trivial ?_
      obtain rfl := Option.some.inj hf
      refine v_pick [0, 1] rfl ?_
      exact kb1 _ rfl
    obtain ⟨g17, hf⟩ := q_gu_o hf
    refine v_run C0 tbX5 cokX5_shop (pc' := 61) (lv' := [(0, .ref a0), (1, .int x1)]) (st' := [.int (q_int h a0 24)]) (h' := h) 2 rfl ⟨g17, trivial⟩ ?_
    refine v_if_ne C0 cokX5_shop rfl 91 (by decide) hf (fun _ hf => ?_) (fun _ hf => ?_)
    · refine v_run C0 tbX5 cokX5_shop (pc' := 68) (lv' := [(0, .ref a0), (1, .int x1)]) (st' := [.int (q_int h a0 25)]) (h' := h) 2 rfl ⟨g17, trivial⟩ ?_
      refine v_if_eq C0 cokX5_shop rfl 84 (by decide) hf (fun _ hf => ?_) (fun _ hf => ?_)
      · refine v_pick [0, 1] rfl ?_
        exact n84 σ h hf
      · obtain ⟨⟨g18, g19⟩, hf⟩ := q_gu_o hf
        refine v_run C0 tbX5 cokX5_shop (pc' := 81) (lv' := [(0, .ref a0), (1, .int x1)]) (st' := [.int (q_int h (q_ref σ a0 19) (Int32.toNatClampNeg x1)), .int (q_int h a0 23)]) (h' := h) 6 rfl ⟨g17, ⟨g17, q_tn g18⟩, ⟨g18, g19⟩, trivial⟩ ?_
        refine v_icmp_ge C0 cokX5_shop rfl 91 (by decide) hf (fun _ hf => ?_) (fun _ hf => ?_)
        · obtain rfl := Option.some.inj hf
          refine v_pick [0] rfl ?_
          have hx := kr1 _ rfl
          subst hx
          exact kx1
        · refine v_pick [0, 1] rfl ?_
          exact n84 σ h hf
    · obtain rfl := Option.some.inj hf
      refine v_pick [0] rfl ?_
      have hx := kr1 _ rfl
      subst hx
      exact kx1
  have n113 : ∀ (o : ((q_St × q_Hp) ⊕ (Int32 × q_St × q_Hp))) (s1 : (Int32 × q_St × q_Hp)), q_loop (fun s => fX5_shop_113  a0 x1 s.1 s.2.1 s.2.2) q_N s1 = some o → (∀ w0 : (q_St × q_Hp), Sum.inl w0 = o → V p l e { frames := 4, cells := 0, slots := 0, locals := 93 } s m args below meth c (MQ below (q_Qc D cy b0 (some (.int r)) σ' h') args s 0 0 (fun q => b0 ≤ q)) D cy b0 4 0 0 0 0 w0.1 w0.2 150 [(0, .ref a0)] []) → (∀ r0 : (Int32 × q_St × q_Hp), Sum.inr r0 = o → (some r0 : Option (Int32 × q_St × q_Hp)) = some (r, σ', h')) → V p l e { frames := 4, cells := 0, slots := 0, locals := 93 } s m args below meth c (MQ below (q_Qc D cy b0 (some (.int r)) σ' h') args s 0 0 (fun q => b0 ≤ q)) D cy b0 4 0 0 0 0 s1.2.1 s1.2.2 113 [(0, .ref a0), (3, .int s1.1)] [] := by
    intro o s1 ho kx1 ke1
    refine q_loop_V (P := fun s0 => V p l e { frames := 4, cells := 0, slots := 0, locals := 93 } s m args below meth c (MQ below (q_Qc D cy b0 (some (.int r)) σ' h') args s 0 0 (fun q => b0 ≤ q)) D cy b0 4 0 0 0 0 s0.2.1 s0.2.2 113 [(0, .ref a0), (3, .int s0.1)] []) (o := o) ?_ q_N s1 ho
    intro s2 z1 hf kb1 kr1
    obtain ⟨x3, σ, h⟩ := s2
    replace hf : fX5_shop_113  a0 x1 x3 σ h = some z1 := hf
    unfold fX5_shop_113 at hf
    show V p l e { frames := 4, cells := 0, slots := 0, locals := 93 } s m args below meth c (MQ below (q_Qc D cy b0 (some (.int r)) σ' h') args s 0 0 (fun q => b0 ≤ q)) D cy b0 4 0 0 0 0 σ h 113 [(0, .ref a0), (3, .int x3)] []
    obtain ⟨g11, hf⟩ := q_gu_o hf
    refine v_run C0 tbX5 cokX5_shop (pc' := 118) (lv' := [(0, .ref a0), (3, .int x3)]) (st' := [.int (q_int h a0 25), .int x3]) (h' := h) 3 rfl ⟨g11, trivial⟩ ?_
    refine v_icmp_ge C0 cokX5_shop rfl 150 (by decide) hf (fun _ hf => ?_) (fun _ hf => ?_)
    · obtain rfl := Option.some.inj hf
      refine v_pick [0] rfl ?_
      exact kx1 _ (kr1 _ rfl)
    · refine v_run C0 tbX5 cokX5_shop (pc' := 123) (lv' := [(0, .ref a0), (3, .int x3)]) (st' := [.int x3, .ref a0]) (h' := h) 2 rfl trivial ?_
      obtain ⟨r12, h12, e12, hf⟩ := q_bd2 hf
      refine v_callV C0 cokX5_shop rfl (rest := []) (ctX5_comesTold a0 x3 g11 e12) calX5_comesTold lkX5_201 inX5_comesTold dnX5_comesTold (ci := 5) ⟨rfl, by decide⟩ g11 rfl rfl ⟨by decide, by decide⟩ (Nat.le_of_ble_eq_true rfl) (Nat.le_refl _) (Nat.le_refl _) ?_
      refine v_if_ne C0 cokX5_shop rfl 144 (by decide) hf (fun _ hf => ?_) (fun _ hf => ?_)
      · refine v_run C0 tbX5 cokX5_shop (pc' := 130) (lv' := [(0, .ref a0), (3, .int x3)]) (st' := [.ref a0]) (h' := h12) 1 rfl trivial ?_
        obtain ⟨σ13, h13, e13, hf⟩ := q_bd2 hf
        refine v_callV C0 cokX5_shop rfl (rest := []) (ctX5_close a0 g11 e13) calX5_close lkX5_204 inX5_close dnX5_close (ci := 5) ⟨rfl, by decide⟩ g11 rfl rfl ⟨by decide, by decide⟩ (Nat.le_of_ble_eq_true rfl) (Nat.le_refl _) (Nat.le_refl _) ?_
        obtain ⟨⟨g14, g15, g16⟩, hf⟩ := q_gu_o hf
        refine v_run C0 tbX5 cokX5_shop (pc' := 143) (lv' := [(0, .ref a0), (3, .int x3)]) (st' := [.int ((-2000 : Int32) - (q_int h13 (q_ref σ13 a0 26) (Int32.toNatClampNeg x3)))]) (h' := h13) 6 rfl ⟨⟨g14, q_tn g15⟩, ⟨g15, g16⟩, trivial⟩ ?_
        obtain rfl := Option.some.inj hf
        have hf := ke1 _ (kr1 _ rfl)
        obtain ⟨hq1, hq2⟩ := Prod.mk.inj (Option.some.inj hf)
        obtain ⟨hq3, hq4⟩ := Prod.mk.inj hq2
        subst hq1
        subst hq3
        subst hq4
        exact v_iret C0 cokX5_shop hr hlk rfl
      · refine v_run C0 tbX5 cokX5_shop (pc' := 113) (lv' := [(3, .int (x3 + (1 : Int32))), (0, .ref a0)]) (st' := []) (h' := h12) 2 rfl trivial ?_
        obtain rfl := Option.some.inj hf
        refine v_pick [1, 0] rfl ?_
        exact kb1 _ rfl
  have n91 : ∀ (σ : q_St) (h : q_Hp), fX5_shop_91  σ h a0 x1 = some (r, σ', h') → V p l e { frames := 4, cells := 0, slots := 0, locals := 93 } s m args below meth c (MQ below (q_Qc D cy b0 (some (.int r)) σ' h') args s 0 0 (fun q => b0 ≤ q)) D cy b0 4 0 0 0 0 σ h 91 [(0, .ref a0)] [] := by
    intro σ h hf
    unfold fX5_shop_91 at hf
    obtain ⟨g6, hf⟩ := q_gu_o hf
    refine v_run C0 tbX5 cokX5_shop (pc' := 95) (lv' := [(0, .ref a0)]) (st' := [.int (q_int h a0 24)]) (h' := h) 2 rfl ⟨g6, trivial⟩ ?_
    refine v_if_eq C0 cokX5_shop rfl 107 (by decide) hf (fun _ hf => ?_) (fun _ hf => ?_)
    · refine v_run C0 tbX5 cokX5_shop (pc' := 108) (lv' := [(0, .ref a0)]) (st' := [.ref a0]) (h' := h) 1 rfl trivial ?_
      obtain ⟨σ7, h7, e7, hf⟩ := q_bd2 hf
      refine v_callV C0 cokX5_shop rfl (rest := []) (ctX5_open a0 g6 e7) calX5_open lkX5_198 inX5_open dnX5_open (ci := 5) ⟨rfl, by decide⟩ g6 rfl rfl ⟨by decide, by decide⟩ (Nat.le_of_ble_eq_true rfl) (Nat.le_refl _) (Nat.le_refl _) ?_
      refine v_run C0 tbX5 cokX5_shop (pc' := 113) (lv' := [(3, .int (0 : Int32)), (0, .ref a0)]) (st' := []) (h' := h7) 2 rfl trivial ?_
      obtain ⟨o8, eo8, hf⟩ := q_bd hf
      refine v_pick [1, 0] rfl ?_
      refine n113 o8 ((0 : Int32), σ7, h7) eo8 (fun w9 hx => ?_) (fun r0 hx => ?_)
      · rw [← hx] at hf
        replace hf := q_el_l hf
        obtain ⟨g10, hf⟩ := q_gu_o hf
        refine v_run C0 tbX5 cokX5_shop (pc' := 154) (lv' := [(0, .ref a0)]) (st' := [.int (q_int w9.2 a0 25)]) (h' := w9.2) 2 rfl ⟨g10, trivial⟩ ?_
        obtain ⟨hq1, hq2⟩ := Prod.mk.inj (Option.some.inj hf)
        obtain ⟨hq3, hq4⟩ := Prod.mk.inj hq2
        subst hq1
        subst hq3
        subst hq4
        exact v_iret C0 cokX5_shop hr hlk rfl
      · rw [← hx] at hf
        exact hf
    · refine v_run C0 tbX5 cokX5_shop (pc' := 106) (lv' := [(0, .ref a0)]) (st' := [.int ((-1000 : Int32) - (q_int h a0 23))]) (h' := h) 4 rfl ⟨g6, trivial⟩ ?_
      obtain ⟨hq1, hq2⟩ := Prod.mk.inj (Option.some.inj hf)
      obtain ⟨hq3, hq4⟩ := Prod.mk.inj hq2
      subst hq1
      subst hq3
      subst hq4
      exact v_iret C0 cokX5_shop hr hlk rfl
  have n30 : ∀ (σ : q_St) (h : q_Hp) (s0 : Int32), fX5_shop_30  σ h a0 x1 s0 = some (r, σ', h') → V p l e { frames := 4, cells := 0, slots := 0, locals := 93 } s m args below meth c (MQ below (q_Qc D cy b0 (some (.int r)) σ' h') args s 0 0 (fun q => b0 ≤ q)) D cy b0 4 0 0 0 0 σ h 30 [(0, .ref a0), (1, .int x1)] [.int s0] := by
    intro σ h s0 hf
    unfold fX5_shop_30 at hf
    refine v_run C0 tbX5 cokX5_shop (pc' := 32) (lv' := [(2, .int s0), (0, .ref a0), (1, .int x1)]) (st' := [.int s0]) (h' := h) 2 rfl trivial ?_
    refine v_if_ge C0 cokX5_shop rfl 37 (by decide) hf (fun _ hf => ?_) (fun _ hf => ?_)
    · obtain ⟨g4, hf⟩ := q_gu_o hf
      refine v_run C0 tbX5 cokX5_shop (pc' := 57) (lv' := [(2, .int s0), (0, .ref a0), (1, .int x1)]) (st' := []) (h' := (q_si (q_si (q_si (q_si h a0 22 x1) a0 23 (0 : Int32)) a0 24 (0 : Int32)) a0 25 (0 : Int32))) 12 rfl ⟨g4, g4, ⟨g4, (Or.inl rfl)⟩, g4, trivial⟩ ?_
      obtain ⟨o5, eo5, hf⟩ := q_bd hf
      refine v_pick [1, 2] rfl ?_
      refine n57 o5 (σ, (q_si (q_si (q_si (q_si h a0 22 x1) a0 23 (0 : Int32)) a0 24 (0 : Int32)) a0 25 (0 : Int32))) eo5 ?_
      refine v_pick [0] rfl ?_
      exact n91 o5.1 o5.2 hf
    · refine v_run C0 tbX5 cokX5_shop (pc' := 36) (lv' := [(2, .int s0), (0, .ref a0), (1, .int x1)]) (st' := [.int s0]) (h' := h) 1 rfl trivial ?_
      obtain ⟨hq1, hq2⟩ := Prod.mk.inj (Option.some.inj hf)
      obtain ⟨hq3, hq4⟩ := Prod.mk.inj hq2
      subst hq1
      subst hq3
      subst hq4
      exact v_iret C0 cokX5_shop hr hlk rfl
  have n29 : ∀ (σ : q_St) (h : q_Hp) (x2 : Int32), fX5_shop_29  σ h a0 x1 x2 = some (r, σ', h') → V p l e { frames := 4, cells := 0, slots := 0, locals := 93 } s m args below meth c (MQ below (q_Qc D cy b0 (some (.int r)) σ' h') args s 0 0 (fun q => b0 ≤ q)) D cy b0 4 0 0 0 0 σ h 29 [(0, .ref a0), (1, .int x1), (2, .int x2)] [] := by
    intro σ h x2 hf
    unfold fX5_shop_29 at hf
    refine v_run C0 tbX5 cokX5_shop (pc' := 30) (lv' := [(0, .ref a0), (1, .int x1), (2, .int x2)]) (st' := [.int x2]) (h' := h) 1 rfl trivial ?_
    refine v_pick [0, 1] rfl ?_
    exact n30 σ h x2 hf
  refine v_run C0 tbX5 cokX5_shop (pc' := 7) (lv' := [(0, .ref a0), (1, .int x1)]) (st' := [.int x1, .ref a0]) (h' := (q_si h a0 21 (0 : Int32))) 5 rfl ⟨ta0, trivial⟩ ?_
  obtain ⟨r1, e1, hf⟩ := q_bd hf
  refine v_callV C0 cokX5_shop rfl (rest := []) (ctX5_wrongRow a0 x1 ta0 e1) calX5_wrongRow lkX5_192 inX5_wrongRow dnX5_wrongRow (ci := 5) ⟨rfl, by decide⟩ ta0 rfl rfl ⟨by decide, by decide⟩ (Nat.le_of_ble_eq_true rfl) (Nat.le_refl _) (Nat.le_refl _) ?_
  refine v_run C0 tbX5 cokX5_shop (pc' := 12) (lv' := [(2, .int r1), (0, .ref a0), (1, .int x1)]) (st' := [.int r1]) (h' := (q_si h a0 21 (0 : Int32))) 2 rfl trivial ?_
  refine v_if_ne C0 cokX5_shop rfl 29 (by decide) hf (fun _ hf => ?_) (fun _ hf => ?_)
  · obtain ⟨⟨g2, g3⟩, hf⟩ := q_gu_o hf
    refine v_run C0 tbX5 cokX5_shop (pc' := 21) (lv' := [(2, .int r1), (0, .ref a0), (1, .int x1)]) (st' := [.int (q_int (q_si h a0 21 (0 : Int32)) (q_ref σ a0 18) (Int32.toNatClampNeg x1))]) (h' := (q_si h a0 21 (0 : Int32))) 4 rfl ⟨⟨ta0, q_tn g2⟩, ⟨g2, g3⟩, trivial⟩ ?_
    refine v_if_eq C0 cokX5_shop rfl 29 (by decide) hf (fun _ hf => ?_) (fun _ hf => ?_)
    · refine v_pick [1, 2, 0] rfl ?_
      exact n29 σ (q_si h a0 21 (0 : Int32)) r1 hf
    · refine v_run C0 tbX5 cokX5_shop (pc' := 30) (lv' := [(2, .int r1), (0, .ref a0), (1, .int x1)]) (st' := [.int (-12 : Int32)]) (h' := (q_si h a0 21 (0 : Int32))) 2 rfl trivial ?_
      refine v_pick [1, 2] rfl ?_
      exact n30 σ (q_si h a0 21 (0 : Int32)) (-12 : Int32) hf
  · refine v_pick [1, 2, 0] rfl ?_
    exact n29 σ (q_si h a0 21 (0 : Int32)) r1 hf
-- BackByNoonOnMondayModel.image()I
noncomputable def fX5_image (σ : q_St) (h : q_Hp) (a0 : Nat) : Option (Int32 × q_St × q_Hp) := q_gu ((q_tag σ (q_ref σ a0 30) = 7)) ((q_b2 (fX5_carryAll σ (q_si (q_si h a0 21 (0 : Int32)) a0 31 (1 : Int32)) a0 (q_ref σ a0 30) (1 : Int32)) fun σ2 h2 => q_gu ((q_tag σ2 a0 = 6)) (some ((q_int h2 a0 14), σ2, h2))))
def cdX5_image : q_Cd := [(0, .aload_n 0), (1, .iconst 0), (2, .putfield 89), (5, .aload_n 0), (6, .iconst 1), (7, .putfield 223), (10, .aload_n 0), (11, .aload_n 0), (12, .getfield 74), (15, .iconst 1), (16, .invokevirtual 219), (19, .aload_n 0), (20, .getfield 127), (23, .ireturn)]
set_option maxRecDepth 100000 in
theorem cokX5_image : q_cok cX5_image cdX5_image := by unfold q_cok; decide +kernel
set_option maxRecDepth 100000 in
set_option maxHeartbeats 4000000 in
theorem ctX5_image {l : Launch} {D : va_G} {cy : Nat → Nat} {b0 : Nat} {σ : q_St} {h : q_Hp} (a0 : Nat) {r : Int32} {σ' : q_St} {h' : q_Hp} (ta0 : q_tag σ a0 = 6) (hf : fX5_image σ h a0 = some (r, σ', h')) : q_M l yX5_image cX5_image 1 (some .int) 2 44 0 0 D cy b0 σ h [.ref a0] (some (.int r)) σ' h' := by
  unfold fX5_image at hf
  refine q_enter (by decide) (Nat.le_of_ble_eq_true rfl) ?_
  intro p e s m args below meth c C0 hr hlk hnm
  replace C0 : VC p { frames := 2, cells := 0, slots := 0, locals := 44 } s m args meth c D cy b0 1 0 0 RX5 cX5_image := C0
  obtain ⟨g1, hf⟩ := q_gu_o hf
  refine v_run C0 tbX5 cokX5_image (pc' := 16) (lv' := [(0, .ref a0)]) (st' := [.int (1 : Int32), .ref (q_ref σ a0 30), .ref a0]) (h' := (q_si (q_si h a0 21 (0 : Int32)) a0 31 (1 : Int32))) 10 rfl ⟨ta0, ⟨ta0, (Or.inr rfl)⟩, ⟨ta0, q_tn g1⟩, trivial⟩ ?_
  obtain ⟨σ2, h2, e2, hf⟩ := q_bd2 hf
  refine v_callV C0 cokX5_image rfl (rest := []) (ctX5_carryAll a0 (q_ref σ a0 30) (1 : Int32) ta0 g1 e2) calX5_carryAll lkX5_219 inX5_carryAll dnX5_carryAll (ci := 5) ⟨rfl, by decide⟩ ta0 rfl rfl ⟨by decide, by decide⟩ (Nat.le_of_ble_eq_true rfl) (Nat.le_refl _) (Nat.le_refl _) ?_
  obtain ⟨g3, hf⟩ := q_gu_o hf
  refine v_run C0 tbX5 cokX5_image (pc' := 23) (lv' := [(0, .ref a0)]) (st' := [.int (q_int h2 a0 14)]) (h' := h2) 2 rfl ⟨g3, trivial⟩ ?_
  obtain ⟨hq1, hq2⟩ := Prod.mk.inj (Option.some.inj hf)
  obtain ⟨hq3, hq4⟩ := Prod.mk.inj hq2
  subst hq1
  subst hq3
  subst hq4
  exact v_iret C0 cokX5_image hr hlk rfl
-- BackByNoonOnMondayModel.restore()I
noncomputable def fX5_restore (σ : q_St) (h : q_Hp) (a0 : Nat) : Option (Int32 × q_St × q_Hp) := (if (q_int (q_si h a0 21 (0 : Int32)) a0 31) = 0 then some ((-3 : Int32), σ, (q_si h a0 21 (0 : Int32))) else q_gu ((q_tag σ (q_ref σ a0 30) = 7)) ((q_b2 (fX5_carryAll σ (q_si h a0 21 (0 : Int32)) a0 (q_ref σ a0 30) (0 : Int32)) fun σ2 h2 => q_gu ((q_tag σ2 a0 = 6)) (some ((q_int h2 a0 14), σ2, h2)))))
def cdX5_restore : q_Cd := [(0, .aload_n 0), (1, .iconst 0), (2, .putfield 89), (5, .aload_n 0), (6, .getfield 223), (9, .ifCond .ne 6), (12, .bipush (-3)), (14, .ireturn), (15, .aload_n 0), (16, .aload_n 0), (17, .getfield 74), (20, .iconst 0), (21, .invokevirtual 219), (24, .aload_n 0), (25, .getfield 127), (28, .ireturn)]
set_option maxRecDepth 100000 in
theorem cokX5_restore : q_cok cX5_restore cdX5_restore := by unfold q_cok; decide +kernel
set_option maxRecDepth 100000 in
set_option maxHeartbeats 4000000 in
theorem ctX5_restore {l : Launch} {D : va_G} {cy : Nat → Nat} {b0 : Nat} {σ : q_St} {h : q_Hp} (a0 : Nat) {r : Int32} {σ' : q_St} {h' : q_Hp} (ta0 : q_tag σ a0 = 6) (hf : fX5_restore σ h a0 = some (r, σ', h')) : q_M l yX5_restore cX5_restore 1 (some .int) 2 44 0 0 D cy b0 σ h [.ref a0] (some (.int r)) σ' h' := by
  unfold fX5_restore at hf
  refine q_enter (by decide) (Nat.le_of_ble_eq_true rfl) ?_
  intro p e s m args below meth c C0 hr hlk hnm
  replace C0 : VC p { frames := 2, cells := 0, slots := 0, locals := 44 } s m args meth c D cy b0 1 0 0 RX5 cX5_restore := C0
  refine v_run C0 tbX5 cokX5_restore (pc' := 9) (lv' := [(0, .ref a0)]) (st' := [.int (q_int (q_si h a0 21 (0 : Int32)) a0 31)]) (h' := (q_si h a0 21 (0 : Int32))) 5 rfl ⟨ta0, ta0, trivial⟩ ?_
  refine v_if_ne C0 cokX5_restore rfl 15 (by decide) hf (fun _ hf => ?_) (fun _ hf => ?_)
  · refine v_run C0 tbX5 cokX5_restore (pc' := 14) (lv' := [(0, .ref a0)]) (st' := [.int (-3 : Int32)]) (h' := (q_si h a0 21 (0 : Int32))) 1 rfl trivial ?_
    obtain ⟨hq1, hq2⟩ := Prod.mk.inj (Option.some.inj hf)
    obtain ⟨hq3, hq4⟩ := Prod.mk.inj hq2
    subst hq1
    subst hq3
    subst hq4
    exact v_iret C0 cokX5_restore hr hlk rfl
  · obtain ⟨g1, hf⟩ := q_gu_o hf
    refine v_run C0 tbX5 cokX5_restore (pc' := 21) (lv' := [(0, .ref a0)]) (st' := [.int (0 : Int32), .ref (q_ref σ a0 30), .ref a0]) (h' := (q_si h a0 21 (0 : Int32))) 4 rfl ⟨⟨ta0, q_tn g1⟩, trivial⟩ ?_
    obtain ⟨σ2, h2, e2, hf⟩ := q_bd2 hf
    refine v_callV C0 cokX5_restore rfl (rest := []) (ctX5_carryAll a0 (q_ref σ a0 30) (0 : Int32) ta0 g1 e2) calX5_carryAll lkX5_219 inX5_carryAll dnX5_carryAll (ci := 5) ⟨rfl, by decide⟩ ta0 rfl rfl ⟨by decide, by decide⟩ (Nat.le_of_ble_eq_true rfl) (Nat.le_refl _) (Nat.le_refl _) ?_
    obtain ⟨g3, hf⟩ := q_gu_o hf
    refine v_run C0 tbX5 cokX5_restore (pc' := 28) (lv' := [(0, .ref a0)]) (st' := [.int (q_int h2 a0 14)]) (h' := h2) 2 rfl ⟨g3, trivial⟩ ?_
    obtain ⟨hq1, hq2⟩ := Prod.mk.inj (Option.some.inj hf)
    obtain ⟨hq3, hq4⟩ := Prod.mk.inj hq2
    subst hq1
    subst hq3
    subst hq4
    exact v_iret C0 cokX5_restore hr hlk rfl
