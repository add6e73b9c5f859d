/-! each call: both sides answer alike, and the invariant holds again -/
theorem Inv_th {σ : q_St} {h : q_Hp} {x A B : Nat} {z zi y : k_Z} {p : Bool} {c : Nat → Nat → Int32} (K : k_va z) (Ki : p = true → k_va zi) (vy : k_vy y) (C : k_CI σ h x A B z p zi y c) (Mi : k_MI σ h (x + 88) z p zi y c) (E : k_etc σ x) : k_Inv σ (q_si h (x + 88) 21 0) x := Inv_of K Ki vy E C Mi.1 (MI_th Mi) fm_th
theorem e_suit {σ : q_St} {h : q_Hp} {x : Nat} (I : k_Inv σ h x) (a0 a1 : Int32) : ∃ r h2, fX4_suit σ h x a0 a1 = some r ∧ fX5_suit σ h (x + 88) a0 a1 = some (r, h2) ∧ k_Inv σ h2 x := by
  obtain ⟨A, B, z, p, zi, y, c, ⟨K, Ki, vy⟩, C, Mi, E⟩ := I
  exact ⟨_, _, c_suit C.1 C.2.1 K a0 a1, m_suitO Mi.1 Mi.2.1 K a0 a1, Inv_th K Ki vy C Mi E⟩
theorem e_booking {σ : q_St} {h : q_Hp} {x : Nat} (I : k_Inv σ h x) (a0 a1 : Int32) : ∃ r h2, fX4_booking σ h x a0 a1 = some r ∧ fX5_booking σ h (x + 88) a0 a1 = some (r, h2) ∧ k_Inv σ h2 x := by
  obtain ⟨A, B, z, p, zi, y, c, ⟨K, Ki, vy⟩, C, Mi, E⟩ := I
  exact ⟨_, _, c_booking C.1 C.2.1 K a0 a1, m_bookingO Mi.1 Mi.2.1 K a0 a1, Inv_th K Ki vy C Mi E⟩
theorem e_fits {σ : q_St} {h : q_Hp} {x : Nat} (I : k_Inv σ h x) (a0 a1 : Int32) : ∃ r h2, fX4_fits σ h x a0 a1 = some r ∧ fX5_fits σ h (x + 88) a0 a1 = some (r, h2) ∧ k_Inv σ h2 x := by
  obtain ⟨A, B, z, p, zi, y, c, ⟨K, Ki, vy⟩, C, Mi, E⟩ := I
  exact ⟨_, _, c_fits C.1 C.2.1 K a0 a1, m_fitsO Mi.1 Mi.2.1 K a0 a1, Inv_th K Ki vy C Mi E⟩
theorem e_count {σ : q_St} {h : q_Hp} {x : Nat} (I : k_Inv σ h x) (a0 : Int32) : ∃ r h2, fX4_count σ h x a0 = some r ∧ fX5_count σ h (x + 88) a0 = some (r, h2) ∧ k_Inv σ h2 x := by
  obtain ⟨A, B, z, p, zi, y, c, ⟨K, Ki, vy⟩, C, Mi, E⟩ := I
  exact ⟨_, _, c_count C.1 C.2.1 K a0, m_countO Mi.1 Mi.2.1 K a0, Inv_th K Ki vy C Mi E⟩
theorem e_shines {σ : q_St} {h : q_Hp} {x : Nat} (I : k_Inv σ h x) : ∃ r h2, fX4_shines σ h x = some r ∧ fX5_shines σ h (x + 88) = some (r, h2) ∧ k_Inv σ h2 x := by
  obtain ⟨A, B, z, p, zi, y, c, ⟨K, Ki, vy⟩, C, Mi, E⟩ := I
  exact ⟨_, _, c_shines C.1 C.2.1 K, m_shinesO Mi.1 Mi.2.1 K, Inv_th K Ki vy C Mi E⟩
theorem e_fee {σ : q_St} {h : q_Hp} {x : Nat} (I : k_Inv σ h x) (a0 a1 : Int32) : ∃ r h2, fX4_fee σ h x a0 a1 = some r ∧ fX5_fee σ h (x + 88) a0 a1 = some (r, h2) ∧ k_Inv σ h2 x := by
  obtain ⟨A, B, z, p, zi, y, c, ⟨K, Ki, vy⟩, C, Mi, E⟩ := I
  exact ⟨_, _, c_fee C.1 C.2.1 K a0 a1, m_feeO Mi.1 Mi.2.1 K a0 a1, Inv_th K Ki vy C Mi E⟩
theorem e_bestFee {σ : q_St} {h : q_Hp} {x : Nat} (I : k_Inv σ h x) : ∃ r h2, fX4_bestFee σ h x = some r ∧ fX5_bestFee σ h (x + 88) = some (r, h2) ∧ k_Inv σ h2 x := by
  obtain ⟨A, B, z, p, zi, y, c, ⟨K, Ki, vy⟩, C, Mi, E⟩ := I
  exact ⟨_, _, c_bestFee C.1 C.2.1 K, m_bestFeeO Mi.1 Mi.2.1 K, Inv_th K Ki vy C Mi E⟩
theorem e_taxi {σ : q_St} {h : q_Hp} {x : Nat} (I : k_Inv σ h x) (a0 a1 a2 : Int32) : ∃ r h2, fX4_taxi σ h x a0 a1 a2 = some r ∧ fX5_taxi σ h (x + 88) a0 a1 a2 = some (r, h2) ∧ k_Inv σ h2 x := by
  obtain ⟨A, B, z, p, zi, y, c, ⟨K, Ki, vy⟩, C, Mi, E⟩ := I
  exact ⟨_, _, c_taxi C.1 C.2.1 K a0 a1 a2, m_taxiO Mi.1 Mi.2.1 K a0 a1 a2, Inv_th K Ki vy C Mi E⟩
theorem e_tight {σ : q_St} {h : q_Hp} {x : Nat} (I : k_Inv σ h x) : ∃ r h2, fX4_tight σ h x = some r ∧ fX5_tight σ h (x + 88) = some (r, h2) ∧ k_Inv σ h2 x := by
  obtain ⟨A, B, z, p, zi, y, c, ⟨K, Ki, vy⟩, C, Mi, E⟩ := I
  exact ⟨_, _, c_tight C.1 C.2.1 K, m_tightO Mi.1 Mi.2.1 K, Inv_th K Ki vy C Mi E⟩
theorem e_friday {σ : q_St} {h : q_Hp} {x : Nat} (I : k_Inv σ h x) (a0 : Int32) : ∃ r h2, fX4_friday σ h x a0 = some r ∧ fX5_friday σ h (x + 88) a0 = some (r, h2) ∧ k_Inv σ h2 x := by
  obtain ⟨A, B, z, p, zi, y, c, ⟨K, Ki, vy⟩, C, Mi, E⟩ := I
  exact ⟨_, _, c_friday C.1 C.2.1 K a0, m_fridayO Mi.1 Mi.2.1 K a0, Inv_th K Ki vy C Mi E⟩
theorem e_atFive {σ : q_St} {h : q_Hp} {x : Nat} (I : k_Inv σ h x) (a0 a1 a2 : Int32) : ∃ r h2, fX4_atFive σ h x a0 a1 a2 = some r ∧ fX5_atFive σ h (x + 88) a0 a1 a2 = some (r, h2) ∧ k_Inv σ h2 x := by
  obtain ⟨A, B, z, p, zi, y, c, ⟨K, Ki, vy⟩, C, Mi, E⟩ := I
  exact ⟨_, _, c_five  a0 a1 a2, m_fiveO  a0 a1 a2, Inv_th K Ki vy C Mi E⟩
theorem e_cost {σ : q_St} {h : q_Hp} {x : Nat} (I : k_Inv σ h x) (a0 : Int32) : ∃ r h2, fX4_cost σ h x a0 = some r ∧ fX5_cost σ h (x + 88) a0 = some (r, h2) ∧ k_Inv σ h2 x := by
  obtain ⟨A, B, z, p, zi, y, c, ⟨K, Ki, vy⟩, C, Mi, E⟩ := I
  exact ⟨_, _, c_cost C vy a0, m_costO Mi.1 Mi.2.2.2.2.1 vy a0, Inv_th K Ki vy C Mi E⟩
theorem e_forged {σ : q_St} {h : q_Hp} {x : Nat} (I : k_Inv σ h x) (a0 : Int32) : ∃ r h2, fX4_forged σ h x a0 = some r ∧ fX5_forged σ h (x + 88) a0 = some (r, h2) ∧ k_Inv σ h2 x := by
  obtain ⟨A, B, z, p, zi, y, c, ⟨K, Ki, vy⟩, C, Mi, E⟩ := I
  exact ⟨_, _, c_forged C K vy a0, m_forgedO Mi K vy a0, Inv_th K Ki vy C Mi E⟩
theorem e_stained {σ : q_St} {h : q_Hp} {x : Nat} (I : k_Inv σ h x) (a0 a1 a2 : Int32) : ∃ r h2, fX4_stained σ h x a0 a1 a2 = some r ∧ fX5_stained σ h (x + 88) a0 a1 a2 = some (r, h2) ∧ k_Inv σ h2 x := by
  obtain ⟨A, B, z, p, zi, y, c, ⟨K, Ki, vy⟩, C, Mi, E⟩ := I
  exact ⟨_, _, c_stained C K vy a0 a1 a2, m_stainedO Mi K vy a0 a1 a2, Inv_th K Ki vy C Mi E⟩
theorem e_judge {σ : q_St} {h : q_Hp} {x : Nat} (I : k_Inv σ h x) (a0 : Int32) : ∃ r h2, fX4_judge σ h x a0 = some r ∧ fX5_judge σ h (x + 88) a0 = some (r, h2) ∧ k_Inv σ h2 x := by
  obtain ⟨A, B, z, p, zi, y, c, ⟨K, Ki, vy⟩, C, Mi, E⟩ := I
  exact ⟨_, _, c_judge C K vy a0, m_judgeO Mi K vy a0, Inv_th K Ki vy C Mi E⟩
theorem e_served {σ : q_St} {h : q_Hp} {x : Nat} (I : k_Inv σ h x) (a0 : Int32) : ∃ r h1 h2, fX4_served σ h x a0 = some (r, h1) ∧ fX5_served σ h1 (x + 88) a0 = some (r, h2) ∧ k_Inv σ h2 x := by
  obtain ⟨A, B, z, p, zi, y, c, ⟨K, Ki, vy⟩, C, Mi, E⟩ := I
  obtain ⟨⟨r1, h1⟩, e1, p1, g1⟩ := c_served C K a0
  have M1 := MI_fc Mi (fc_of E (k_scr_mz g1))
  obtain ⟨⟨r2, h2⟩, e2, p2, a2⟩ := m_served M1 K a0
  dsimp only at p1 p2 a2 g1
  rw [← p1] at p2
  rw [p2] at e2
  exact ⟨r1, h1, h2, e1, e2, Inv_of K Ki vy E (CI_scr C g1) M1.1 (MI_mf M1 a2 (by decide) (fun r h1 h2 => by simp; try omega) (by decide)) ⟨⟨_, _, a2⟩, Or.inl rfl⟩⟩
theorem e_leftOver {σ : q_St} {h : q_Hp} {x : Nat} (I : k_Inv σ h x) : ∃ r h1 h2, fX4_leftOver σ h x = some (r, h1) ∧ fX5_leftOver σ h1 (x + 88) = some (r, h2) ∧ k_Inv σ h2 x := by
  obtain ⟨A, B, z, p, zi, y, c, ⟨K, Ki, vy⟩, C, Mi, E⟩ := I
  obtain ⟨⟨r1, h1⟩, e1, p1, g1⟩ := c_leftOver C K
  have M1 := MI_fc Mi (fc_of E (k_scr_mz g1))
  obtain ⟨⟨r2, h2⟩, e2, p2, a2⟩ := m_leftOver M1 K
  dsimp only at p1 p2 a2 g1
  rw [← p1] at p2
  rw [p2] at e2
  exact ⟨r1, h1, h2, e1, e2, Inv_of K Ki vy E (CI_scr C g1) M1.1 (MI_mf M1 a2 (by decide) (fun r h1 h2 => by simp; try omega) (by decide)) ⟨⟨_, _, a2⟩, Or.inl rfl⟩⟩
theorem e_earned {σ : q_St} {h : q_Hp} {x : Nat} (I : k_Inv σ h x) : ∃ r h1 h2, fX4_earned σ h x = some (r, h1) ∧ fX5_earned σ h1 (x + 88) = some (r, h2) ∧ k_Inv σ h2 x := by
  obtain ⟨A, B, z, p, zi, y, c, ⟨K, Ki, vy⟩, C, Mi, E⟩ := I
  obtain ⟨⟨r1, h1⟩, e1, p1, g1⟩ := c_earned C K
  have M1 := MI_fc Mi (fc_of E (k_scr_mz g1))
  obtain ⟨⟨r2, h2⟩, e2, p2, a2⟩ := m_earned M1 K
  dsimp only at p1 p2 a2 g1
  rw [← p1] at p2
  rw [p2] at e2
  exact ⟨r1, h1, h2, e1, e2, Inv_of K Ki vy E (CI_scr C g1) M1.1 (MI_mf M1 a2 (by decide) (fun r h1 h2 => by simp; try omega) (by decide)) ⟨⟨_, _, a2⟩, Or.inl rfl⟩⟩
theorem e_refuse {σ : q_St} {h : q_Hp} {x : Nat} (I : k_Inv σ h x) : ∃ r h1 h2, fX4_refuse σ h x = some (r, h1) ∧ fX5_refuse σ h1 (x + 88) = some (r, h2) ∧ k_Inv σ h2 x := by
  obtain ⟨A, B, z, p, zi, y, c, ⟨K, Ki, vy⟩, C, Mi, E⟩ := I
  obtain ⟨⟨r1, h1⟩, e1, p1, g1⟩ := c_refuse C K
  have M1 := MI_fc Mi (fc_of E (k_scr_mz g1))
  obtain ⟨⟨r2, h2⟩, e2, p2, a2⟩ := m_refuse M1 K
  dsimp only at p1 p2 a2 g1
  rw [← p1] at p2
  rw [p2] at e2
  exact ⟨r1, h1, h2, e1, e2, Inv_of K Ki vy E (CI_scr C g1) M1.1 (MI_mf M1 a2 (by decide) (fun r h1 h2 => by simp; try omega) (by decide)) ⟨⟨_, _, a2⟩, Or.inl rfl⟩⟩
theorem e_sell {σ : q_St} {h : q_Hp} {x : Nat} (I : k_Inv σ h x) : ∃ r h1 h2, fX4_sell σ h x = some (r, h1) ∧ fX5_sell σ h1 (x + 88) = some (r, h2) ∧ k_Inv σ h2 x := by
  obtain ⟨A, B, z, p, zi, y, c, ⟨K, Ki, vy⟩, C, Mi, E⟩ := I
  obtain ⟨⟨r1, h1⟩, e1, p1, g1⟩ := c_sell C K
  have M1 := MI_fc Mi (fc_of E (k_scr_mz g1))
  obtain ⟨⟨r2, h2⟩, e2, p2, a2⟩ := m_sell M1 K
  dsimp only at p1 p2 a2 g1
  rw [← p1] at p2
  rw [p2] at e2
  exact ⟨r1, h1, h2, e1, e2, Inv_of K Ki vy E (CI_scr C g1) M1.1 (MI_mf M1 a2 (by decide) (fun r h1 h2 => by simp; try omega) (by decide)) ⟨⟨_, _, a2⟩, Or.inl rfl⟩⟩
theorem e_alike {σ : q_St} {h : q_Hp} {x : Nat} (I : k_Inv σ h x) : ∃ r h1 h2, fX4_alike σ h x = some (r, h1) ∧ fX5_alike σ h1 (x + 88) = some (r, h2) ∧ k_Inv σ h2 x := by
  obtain ⟨A, B, z, p, zi, y, c, ⟨K, Ki, vy⟩, C, Mi, E⟩ := I
  obtain ⟨⟨r1, h1⟩, e1, p1, g1⟩ := c_alike C K
  have M1 := MI_fc Mi (fc_of E (k_scr_mz g1))
  obtain ⟨⟨r2, h2⟩, e2, p2, a2⟩ := m_alike M1 K
  dsimp only at p1 p2 a2 g1
  rw [← p1] at p2
  rw [p2] at e2
  exact ⟨r1, h1, h2, e1, e2, Inv_of K Ki vy E (CI_scr C g1) M1.1 (MI_mf M1 a2 (by decide) (fun r h1 h2 => by simp; try omega) (by decide)) ⟨⟨_, _, a2⟩, Or.inl rfl⟩⟩
theorem e_ready {σ : q_St} {h : q_Hp} {x : Nat} (I : k_Inv σ h x) (a0 a1 : Int32) : ∃ r h1 h2, fX4_ready σ h x a0 a1 = some (r, h1) ∧ fX5_ready σ h1 (x + 88) a0 a1 = some (r, h2) ∧ k_Inv σ h2 x := by
  obtain ⟨A, B, z, p, zi, y, c, ⟨K, Ki, vy⟩, C, Mi, E⟩ := I
  obtain ⟨⟨r1, h1⟩, e1, p1, g1⟩ := c_ready C K vy a0 a1
  have M1 := MI_fc Mi (fc_of E (k_scr_mz g1))
  obtain ⟨⟨r2, h2⟩, e2, p2, a2⟩ := m_ready M1 K vy a0 a1
  dsimp only at p1 p2 a2 g1
  rw [← p1] at p2
  rw [p2] at e2
  exact ⟨r1, h1, h2, e1, e2, Inv_of K Ki vy E (CI_scr C g1) M1.1 (MI_mf M1 a2 (by decide) (fun r h1 h2 => by simp; try omega) (by decide)) ⟨⟨_, _, a2⟩, Or.inl rfl⟩⟩
theorem e_come {σ : q_St} {h : q_Hp} {x : Nat} (I : k_Inv σ h x) (a0 a1 : Int32) : ∃ r h1 h2, fX4_come σ h x a0 a1 = some (r, h1) ∧ fX5_come σ h1 (x + 88) a0 a1 = some (r, h2) ∧ k_Inv σ h2 x := by
  obtain ⟨A, B, z, p, zi, y, c, ⟨K, Ki, vy⟩, C, Mi, E⟩ := I
  obtain ⟨⟨r1, h1⟩, e1, p1, g1⟩ := c_come C K a0 a1
  have M1 := MI_fc Mi (fc_of E (k_scr_mz g1))
  dsimp only at p1 g1
  exact ⟨r1, h1, _, e1, by rw [m_come M1 K a0 a1, p1], Inv_of K Ki vy E (CI_scr C g1) M1.1 (MI_th M1) fm_th⟩
theorem e_buy {σ : q_St} {h : q_Hp} {x : Nat} (I : k_Inv σ h x) (a0 a1 : Int32) : ∃ r h1 σ2 h2, fX4_buy σ h x a0 a1 = some (r, h1) ∧ fX5_buy σ h1 (x + 88) a0 a1 = some (r, σ2, h2) ∧ k_Inv σ2 h2 x := by
  obtain ⟨A, B, z, p, zi, y, c, ⟨K, Ki, vy⟩, C, Mi, E⟩ := I
  obtain ⟨⟨r1, h1⟩, e1, p1, g1⟩ := c_buy C K a0 a1
  have M1 := MI_fc Mi (fc_of E (k_scr_mz g1))
  obtain ⟨⟨r2, σ2, h2⟩, e2, p2, s2, W2, a2⟩ := m_buy M1 K a0 a1
  dsimp only at p1 p2 s2 W2 a2 g1
  rw [← p1] at p2
  rw [p2] at e2
  have M2 : k_M σ2 (x + 88) := by
    rcases s2 with q | q
    · rw [q]; exact M1.1
    · rw [q]; exact M_34 M1.1
  exact ⟨r1, h1, σ2, h2, e1, e2, Inv_of K Ki vy E (CI_scr C g1) M1.1 (MI_st M1 M2 W2 a2 (by decide) (fun r h1 h2 => by simp [k_ro]; omega) (by decide)) ⟨⟨_, _, a2⟩, s2.imp id (fun q => ⟨_, q⟩)⟩⟩
theorem e_grown {σ : q_St} {h : q_Hp} {x : Nat} (I : k_Inv σ h x) (a0 : Int32) : ∃ r h1 σ2 h2, fX4_grown σ h x a0 = some (r, h1) ∧ fX5_grown σ h1 (x + 88) a0 = some (r, σ2, h2) ∧ k_Inv σ2 h2 x := by
  obtain ⟨A, B, z, p, zi, y, c, ⟨K, Ki, vy⟩, C, Mi, E⟩ := I
  obtain ⟨⟨r1, h1⟩, e1, p1, g1⟩ := c_grown C K a0
  have M1 := MI_fc Mi (fc_of E (k_scr_mz g1))
  obtain ⟨⟨r2, σ2, h2⟩, e2, p2, s2, W2, a2⟩ := m_grown M1 K a0
  dsimp only at p1 p2 s2 W2 a2 g1
  rw [← p1] at p2
  rw [p2] at e2
  have M2 : k_M σ2 (x + 88) := by
    rcases s2 with q | q
    · rw [q]; exact M1.1
    · rw [q]; exact M_34 M1.1
  exact ⟨r1, h1, σ2, h2, e1, e2, Inv_of K Ki vy E (CI_scr C g1) M1.1 (MI_st M1 M2 W2 a2 (by decide) (fun r h1 h2 => by simp [k_ro]; omega) (by decide)) ⟨⟨_, _, a2⟩, s2.imp id (fun q => ⟨_, q⟩)⟩⟩
theorem e_oneMore {σ : q_St} {h : q_Hp} {x : Nat} (I : k_Inv σ h x) : ∃ r h1 σ2 h2, fX4_oneMore σ h x = some (r, h1) ∧ fX5_oneMore σ h1 (x + 88) = some (r, σ2, h2) ∧ k_Inv σ2 h2 x := by
  obtain ⟨A, B, z, p, zi, y, c, ⟨K, Ki, vy⟩, C, Mi, E⟩ := I
  obtain ⟨⟨r1, h1⟩, e1, p1, g1⟩ := c_oneMore C K
  have M1 := MI_fc Mi (fc_of E (k_scr_mz g1))
  obtain ⟨⟨r2, σ2, h2⟩, e2, p2, s2, W2, -, a2⟩ := m_oneMore M1 K
  dsimp only at p1 p2 s2 W2 a2 g1
  rw [← p1] at p2
  rw [p2] at e2
  exact ⟨r1, h1, σ2, h2, e1, e2, Inv_of K Ki vy E (CI_scr C g1) M1.1 (MI_st M1 (by rw [s2]; exact M_34 M1.1) W2 a2 (by decide) (fun r h1 h2 => by simp [k_ro]; omega) (by decide)) ⟨⟨_, _, a2⟩, Or.inr ⟨_, s2⟩⟩⟩
theorem e_weeks {σ : q_St} {h : q_Hp} {x : Nat} (I : k_Inv σ h x) (a0 a1 a2 : Int32) : ∃ r σ2 h2, fX4_weeks σ h x a0 a1 a2 = some r ∧ fX5_weeks σ h (x + 88) a0 a1 a2 = some (r, σ2, h2) ∧ k_Inv σ2 h2 x := by
  obtain ⟨A, B, z, p, zi, y, c, ⟨K, Ki, vy⟩, C, Mi, E⟩ := I
  have e1 := c_weeks C K a0 a1 a2
  obtain ⟨⟨r2, σ2, h2⟩, e2, p2, s2, W2, a2⟩ := m_weeks Mi K a0 a1 a2
  dsimp only at p2 s2 W2 a2
  rw [p2] at e2
  have M2 : k_M σ2 (x + 88) := by
    rcases s2 with q | q
    · rw [q]; exact Mi.1
    · rw [q]; exact M_34 Mi.1
  exact ⟨_, σ2, h2, e1, e2, Inv_of K Ki vy E C Mi.1 (MI_st Mi M2 W2 a2 (by decide) (fun r h1 h2 => by simp [k_ro]; omega) (by decide)) ⟨⟨_, _, a2⟩, s2.imp id (fun q => ⟨_, q⟩)⟩⟩
theorem e_hires {σ : q_St} {h : q_Hp} {x : Nat} (I : k_Inv σ h x) (a0 a1 : Int32) : ∃ r h1 h2, fX4_hires σ h x a0 a1 = some (r, h1) ∧ fX5_hires σ h1 (x + 88) a0 a1 = some (r, h2) ∧ k_Inv σ h2 x := by
  obtain ⟨A, B, z, p, zi, y, c, ⟨K, Ki, vy⟩, C, Mi, E⟩ := I
  obtain ⟨⟨r1, h1⟩, e1, p1, V1, g1⟩ := c_hire C.2.1 K a0 a1
  dsimp only at p1 V1 g1
  have C1 := CI_trA C E (tr_h (xA C.1) E.2.2.1 g1) V1
  have M1 := MI_fc Mi C1.2
  obtain ⟨⟨r2, h2⟩, e2, p2, W2, a2⟩ := m_hires M1.1 M1.2.1 K a0 a1
  dsimp only at p2 W2 a2
  rw [← p1] at p2
  rw [p2] at e2
  refine ⟨r1, h1, h2, ?_, e2, Inv_of (va_hires K a0 a1) Ki vy E C1.1 M1.1 (MI_st M1 M1.1 W2 a2 (by decide) (fun r h1 h2 => by simp; try omega) (by decide)) ⟨⟨_, _, a2⟩, Or.inl rfl⟩⟩
  unfold fX4_hires
  rw [xr0 C.1, q_gu_t (xA C.1).1, e1, k_b2s]
theorem e_returns {σ : q_St} {h : q_Hp} {x : Nat} (I : k_Inv σ h x) (a0 : Int32) : ∃ r h1 h2, fX4_returns σ h x a0 = some (r, h1) ∧ fX5_returns σ h1 (x + 88) a0 = some (r, h2) ∧ k_Inv σ h2 x := by
  obtain ⟨A, B, z, p, zi, y, c, ⟨K, Ki, vy⟩, C, Mi, E⟩ := I
  obtain ⟨⟨r1, h1⟩, e1, p1, V1, g1⟩ := c_back C.2.1 K a0
  dsimp only at p1 V1 g1
  have C1 := CI_trA C E (tr_h (xA C.1) E.2.2.1 g1) V1
  have M1 := MI_fc Mi C1.2
  obtain ⟨⟨r2, h2⟩, e2, p2, W2, a2⟩ := m_returns M1.1 M1.2.1 K a0
  dsimp only at p2 W2 a2
  rw [← p1] at p2
  rw [p2] at e2
  refine ⟨r1, h1, h2, ?_, e2, Inv_of (va_backs K a0) Ki vy E C1.1 M1.1 (MI_st M1 M1.1 W2 a2 (by decide) (fun r h1 h2 => by simp; try omega) (by decide)) ⟨⟨_, _, a2⟩, Or.inl rfl⟩⟩
  unfold fX4_returns
  rw [xr0 C.1, q_gu_t (xA C.1).1, e1, k_b2s]
theorem e_cleans {σ : q_St} {h : q_Hp} {x : Nat} (I : k_Inv σ h x) (a0 : Int32) : ∃ r h1 h2, fX4_cleans σ h x a0 = some (r, h1) ∧ fX5_cleans σ h1 (x + 88) a0 = some (r, h2) ∧ k_Inv σ h2 x := by
  obtain ⟨A, B, z, p, zi, y, c, ⟨K, Ki, vy⟩, C, Mi, E⟩ := I
  obtain ⟨⟨r1, h1⟩, e1, p1, V1, g1⟩ := c_clean C.2.1 K a0
  dsimp only at p1 V1 g1
  have C1 := CI_trA C E (tr_h (xA C.1) E.2.2.1 g1) V1
  have M1 := MI_fc Mi C1.2
  obtain ⟨⟨r2, h2⟩, e2, p2, W2, a2⟩ := m_cleansO M1.1 M1.2.1 K a0
  dsimp only at p2 W2 a2
  rw [← p1] at p2
  rw [p2] at e2
  refine ⟨r1, h1, h2, ?_, e2, Inv_of (va_cleans K a0) Ki vy E C1.1 M1.1 (MI_st M1 M1.1 W2 a2 (by decide) (fun r h1 h2 => by simp; try omega) (by decide)) ⟨⟨_, _, a2⟩, Or.inl rfl⟩⟩
  unfold fX4_cleans
  rw [xr0 C.1, q_gu_t (xA C.1).1, e1, k_b2s]
theorem e_buys {σ : q_St} {h : q_Hp} {x : Nat} (I : k_Inv σ h x) (a0 a1 : Int32) : ∃ r σ1 h1 h2, fX4_buys σ h x a0 a1 = some (r, σ1, h1) ∧ fX5_buys σ1 h1 (x + 88) a0 a1 = some (r, h2) ∧ k_Inv σ1 h2 x := by
  obtain ⟨A, B, z, p, zi, y, c, ⟨K, Ki, vy⟩, C, Mi, E⟩ := I
  obtain ⟨⟨r1, σ1, h1⟩, e1, p1, C1, F1⟩ := c_buys C K vy E a0 a1
  dsimp only at p1 C1 F1
  have M1 := MI_fc Mi F1
  obtain ⟨⟨r2, h2⟩, e2, p2, M2, fm⟩ := m_buysO M1 K vy a0 a1
  dsimp only at p2 M2 fm
  rw [← p1] at p2
  rw [p2] at e2
  exact ⟨r1, σ1, h1, h2, e1, e2, Inv_of (va_buysP K vy a0 a1) Ki vy (etc_fc E F1) C1 M1.1 M2 fm⟩
theorem e_books {σ : q_St} {h : q_Hp} {x : Nat} (I : k_Inv σ h x) (a0 a1 a2 : Int32) : ∃ r h1 h2, fX4_books σ h x a0 a1 a2 = some (r, h1) ∧ fX5_books σ h1 (x + 88) a0 a1 a2 = some (r, h2) ∧ k_Inv σ h2 x := by
  obtain ⟨A, B, z, p, zi, y, c, ⟨K, Ki, vy⟩, C, Mi, E⟩ := I
  obtain ⟨⟨r1, h1⟩, e1, p1, C1, F1⟩ := c_books C K E a0 a1 a2
  dsimp only at p1 C1 F1
  have M1 := MI_fc Mi F1
  obtain ⟨⟨r2, h2⟩, e2, p2, M2, fm⟩ := m_booksO M1 K a0 a1 a2
  dsimp only at p2 M2 fm
  rw [← p1] at p2
  rw [p2] at e2
  exact ⟨r1, h1, h2, e1, e2, Inv_of (va_booksP K a0 a1 a2) Ki vy E C1 M1.1 M2 fm⟩
theorem e_image {σ : q_St} {h : q_Hp} {x : Nat} (I : k_Inv σ h x) : ∃ r σ1 h1 σ2 h2, q_tag σ1 (x + 88) = 6 ∧ fX4_image σ h x = some (r, σ1, h1) ∧ fX5_image σ1 h1 (x + 88) = some (r, σ2, h2) ∧ k_Inv σ2 h2 x := by
  obtain ⟨A, B, z, p, zi, y, c, ⟨K, Ki, vy⟩, C, Mi, E⟩ := I
  obtain ⟨⟨r1, σ1, h1⟩, e1, p1, C1, F1⟩ := c_image C K E
  dsimp only at p1 C1 F1
  have M1 := MI_fc Mi F1
  obtain ⟨⟨r2, σ2, h2⟩, e2, p2, M2, fm⟩ := m_imageO M1 K
  dsimp only at p2 M2 fm
  rw [← p1] at p2
  rw [p2] at e2
  exact ⟨r1, σ1, h1, σ2, h2, mt0 M1.1, e1, e2, Inv_of K (fun _ => K) vy (etc_fc E F1) C1 M1.1 M2 fm⟩
theorem e_restore {σ : q_St} {h : q_Hp} {x : Nat} (I : k_Inv σ h x) : ∃ r σ1 h1 σ2 h2, q_tag σ1 (x + 88) = 6 ∧ fX4_restore σ h x = some (r, σ1, h1) ∧ fX5_restore σ1 h1 (x + 88) = some (r, σ2, h2) ∧ k_Inv σ2 h2 x := by
  obtain ⟨A, B, z, p, zi, y, c, ⟨K, Ki, vy⟩, C, Mi, E⟩ := I
  obtain ⟨⟨r1, σ1, h1⟩, e1, p1⟩ := c_restore C Ki E
  cases hp : p with
  | false =>
    rw [hp] at p1
    rw [if_neg (by decide)] at p1
    cases p1
    obtain ⟨⟨r2, σ2, h2⟩, e2, p2, M2, fm⟩ := m_restoreO Mi Ki
    dsimp only at p2 M2 fm
    rw [hp, if_neg (by decide)] at p2 M2
    rw [p2] at e2
    rw [hp] at Ki C
    exact ⟨-3, σ, h, σ2, h2, mt0 Mi.1, e1, e2, Inv_of K Ki vy E C Mi.1 M2 fm⟩
  | true =>
    rw [hp] at p1
    rw [if_pos rfl] at p1
    obtain ⟨p1, C1, F1⟩ := p1
    dsimp only at p1 C1 F1
    have M1 := MI_fc Mi F1
    obtain ⟨⟨r2, σ2, h2⟩, e2, p2, M2, fm⟩ := m_restoreO M1 Ki
    dsimp only at p2 M2 fm
    rw [hp, if_pos rfl] at p2 M2
    rw [← p1] at p2
    rw [p2] at e2
    exact ⟨r1, σ1, h1, σ2, h2, mt0 M1.1, e1, e2, Inv_of (Ki hp) (fun _ => Ki hp) vy (etc_fc E F1) C1 M1.1 M2 fm⟩
theorem e_shop {σ : q_St} {h : q_Hp} {x : Nat} (I : k_Inv σ h x) (a0 : Int32) : ∃ r σ1 h1 σ2 h2, q_tag σ1 (x + 88) = 6 ∧ fX4_shop σ h x a0 = some (r, σ1, h1) ∧ fX5_shop σ1 h1 (x + 88) a0 = some (r, σ2, h2) ∧ k_Inv σ2 h2 x := by
  obtain ⟨A, B, z, p, zi, y, c, ⟨K, Ki, vy⟩, C, Mi, E⟩ := I
  obtain ⟨⟨r1, σ1, h1⟩, e1, p1, A', B', C1, F1⟩ := c_shop C K vy E a0
  dsimp only at p1 C1 F1
  have M1 := MI_fc Mi F1
  obtain ⟨⟨r2, σ2, h2⟩, e2, p2, M2, fm⟩ := m_shopO M1 K vy a0
  dsimp only at p2 M2 fm
  rw [← p1] at p2
  rw [p2] at e2
  exact ⟨r1, σ1, h1, σ2, h2, mt0 M1.1, e1, e2, Inv_of (va_shop K a0) Ki vy (etc_fc E F1) C1 M1.1 M2 fm⟩
theorem e_keep {σ : q_St} {h : q_Hp} {x : Nat} (I : k_Inv σ h x) (a0 a1 a2 a3 : Int32) : ∃ r σ1 h1 h2, fX4_keep σ h x a0 a1 a2 a3 = some (r, σ1, h1) ∧ fX5_keep σ1 h1 (x + 88) a0 a1 a2 a3 = some (r, h2) ∧ k_Inv σ1 h2 x := by
  obtain ⟨A, B, z, p, zi, y, c, ⟨K, Ki, vy⟩, C, Mi, E⟩ := I
  obtain ⟨⟨r1, σ1, h1⟩, e1, p1, C1, F1⟩ := c_keep C E a0 a1 a2 a3
  dsimp only at p1 C1 F1
  have M1 := MI_fc Mi F1
  obtain ⟨⟨r2, h2⟩, e2, p2, M2, fm⟩ := m_keep M1 a0 a1 a2 a3
  dsimp only at p2 M2 fm
  rw [← p1] at p2
  rw [p2] at e2
  exact ⟨r1, σ1, h1, h2, e1, e2, Inv_of K Ki (vy_keep vy a0 a1 a2 a3) (etc_fc E F1) C1 M1.1 M2 fm⟩
theorem e_row {σ : q_St} {h : q_Hp} {x : Nat} (I : k_Inv σ h x) (a0 a1 a2 : Int32) : ∃ r h1 h2, fX4_row σ h x a0 a1 a2 = some (r, h1) ∧ fX5_row σ h1 (x + 88) a0 a1 a2 = some (r, h2) ∧ k_Inv σ h2 x := by
  obtain ⟨A, B, z, p, zi, y, c, ⟨K, Ki, vy⟩, C, Mi, E⟩ := I
  obtain ⟨⟨r1, h1⟩, e1, p1, C1, F1⟩ := c_row C E a0 a1 a2
  dsimp only at p1 C1 F1
  have M1 := MI_fc Mi F1
  obtain ⟨⟨r2, h2⟩, e2, p2, M2, fm⟩ := m_row M1 a0 a1 a2
  dsimp only at p2 M2 fm
  rw [← p1] at p2
  rw [p2] at e2
  exact ⟨r1, h1, h2, e1, e2, Inv_of K Ki (vy_row (c := c) vy a0 a1 a2) E C1 M1.1 M2 fm⟩
theorem e_put {σ : q_St} {h : q_Hp} {x : Nat} (I : k_Inv σ h x) (a0 a1 a2 : Int32) : ∃ r h1 h2, fX4_put σ h x a0 a1 a2 = some (r, h1) ∧ fX5_put σ h1 (x + 88) a0 a1 a2 = some (r, h2) ∧ k_Inv σ h2 x := by
  obtain ⟨A, B, z, p, zi, y, c, ⟨K, Ki, vy⟩, C, Mi, E⟩ := I
  obtain ⟨⟨r1, h1⟩, e1, p1, C1, F1⟩ := c_put C vy E a0 a1 a2
  dsimp only at p1 C1 F1
  have M1 := MI_fc Mi F1
  obtain ⟨⟨r2, h2⟩, e2, p2, M2, fm⟩ := m_put M1 vy a0 a1 a2
  dsimp only at p2 M2 fm
  rw [← p1] at p2
  rw [p2] at e2
  exact ⟨r1, h1, h2, e1, e2, Inv_of K Ki vy E C1 M1.1 M2 fm⟩
theorem e_copy {σ : q_St} {h : q_Hp} {x : Nat} (I : k_Inv σ h x) (a0 a1 a2 a3 a4 : Int32) : ∃ r h1 h2, fX4_copy σ h x a0 a1 a2 a3 a4 = some (r, h1) ∧ fX5_copy σ h1 (x + 88) a0 a1 a2 a3 a4 = some (r, h2) ∧ k_Inv σ h2 x := by
  obtain ⟨A, B, z, p, zi, y, c, ⟨K, Ki, vy⟩, C, Mi, E⟩ := I
  obtain ⟨⟨r1, h1⟩, e1, p1, C1, F1⟩ := c_copy C vy E a0 a1 a2 a3 a4
  dsimp only at p1 C1 F1
  have M1 := MI_fc Mi F1
  obtain ⟨⟨r2, h2⟩, e2, p2, M2, fm⟩ := m_copy M1 vy a0 a1 a2 a3 a4
  dsimp only at p2 M2 fm
  rw [← p1] at p2
  rw [p2] at e2
  exact ⟨r1, h1, h2, e1, e2, Inv_of K Ki vy E C1 M1.1 M2 fm⟩
