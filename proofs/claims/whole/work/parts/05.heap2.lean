/-! fields written, arrays copied, cells made -/
section QP
variable {p : Program} {l : Launch} {e : Env} {R : Room} {s : State} {m : MethodId} {args : Array Value} {below : List Frame} {meth : Method} {c : Code} {H : Heap} {locs : List Loc} {cells slots : Nat} {Q : State → Prop}
variable {cc : ByteArray} {pc : Nat} {ls : Array Slot} {rest : List Value} {D : va_G} {cy : Nat → Nat} {b0 : Nat} {σ σ' : q_St} {h h' : q_Hp} {H0 : Heap} {own : String} {a : Nat}
theorem x_putv (hexec : p.tables.exec = Jvm.exec) (hb : c.code = cc) (hts : ∀ w ∈ q_tbl, w.before args s = true) (hown : s.vm.findClass own = some m.cls) (hK : va_K D vwCl (q_tys cy) s) (hW : q_HW D cy b0 σ h H) (hS : va_S (fun q => b0 ≤ q) H0 H locs) {idx ci k : Nat} (hf : q_fok own (idx, ci, k)) (ht : q_tag σ a = ci + 1)
    (hfin : ((q_cl ci).2.1 k).2.2.2 = false ∨ (((q_cl ci).2.1 k).2.2.2 = true ∧ meth.name = "<init>" ∧ (q_cl ci).1 = own)) {v : Value} (hn : narrow (q_ty ci k) v = v) (hfit : fits (q_ty ci k) v = true) (hdg : decode cc pc = .ok (.putfield idx, 3))
    (e0 : q_sz σ' = q_sz σ) (e1 : q_tag σ' = q_tag σ) (e2 : q_len σ' = q_len σ) (e3 : ∀ b, b ≠ a → q_ref σ' b = q_ref σ b) (e4 : ∀ b, b ≠ a → h'.1 b = h.1 b) (e5 : ∀ b, b ≠ a → h'.2 b = h.2 b) (he : q_fl (q_ref σ' a) (h'.1 a) (q_lay ci) 0 = (q_fl (q_ref σ a) (h.1 a) (q_lay ci) 0).set k v)
    (kk : ∀ (H1 : Heap) (locs1 : List Loc), q_HW D cy b0 σ' h' H1 → va_S (fun q => b0 ≤ q) H0 H1 locs1 → W p l e R s m args below meth c H1 locs1 cells slots Q (F0 m (pc + 3) ls rest)) : W p l e R s m args below meth c H locs cells slots Q (F0 m pc ls (v :: .ref a :: rest)) := by
  obtain ⟨h1, h2, h3, h4⟩ := hf
  obtain ⟨k1, k2, k3, k4, k5⟩ := q_clsok h1
  have hap := va_apart (own := own) hts k2 (q_ty ci) k3 k4 hK k1
  have h0 : q_tag σ a ≠ 0 := by rw [ht]; omega
  obtain ⟨q0, hq⟩ := q_at hW h0
  have hq' := hq
  rw [q_cell_obj ht h1] at hq'
  obtain ⟨r, r1, cell, q1, q2, q3, q4⟩ := hW.2.1 q0 _ hq'
  have hr : r = ((q_cl ci).1, (q_cl ci).2.1, (q_cl ci).2.2) := Option.some.inj (r1.symm.trans k1)
  subst hr
  obtain ⟨hSl, hfc, kC, hkC, hkind⟩ := hK.1 ci _ k1
  obtain ⟨cf, kf, fi, f, hi, hsl⟩ := hSl k h2
  have hlay := hts _ (k2 _ (u_in_lay h2))
  have hst := (u_facts hfc hkC (u_lays hts k2 h2) hi).1
  have hll : k < (q_fl (q_ref σ a) (h.1 a) (q_lay ci) 0).length := by rw [q_fl_len, k5]; exact h2
  have fin : ∀ (H' : Heap), H'[a]? = some (cell.setSlot f.slot v) → H'.size = H.size → (∀ q, q ≠ a → H'[q]? = H[q]?) → W p l e R s m args below meth c H' (locs ++ [⟨a, f.slot⟩]) cells slots Q (F0 m (pc + 3) ls rest) := by
    intro H' g1 g2 g3
    rw [hsl] at g1
    refine kk H' _ (q_wr hW h0 hq (hW.2.1.set (q_D hW _) hq (e := .inr (ci, (q_fl (q_ref σ a) (h.1 a) (q_lay ci) 0).set k v)) ⟨_, k1, t_OB.to (V := updV (vp_V (q_fl (q_ref σ a) (h.1 a) (q_lay ci) 0)) k v) ⟨_, g1, q2, q3, t_set q4 hap h2 v⟩ (fun j _ => vp_updV_set hll v j)⟩ g3) g2 e0 e1 e2 e3 e4 e5 ?_) (hS.put g2 g3 (hW.2.2.2.2 a h0).1)
    rw [q_cell_obj (by rw [e1]; exact ht) h1, he]
  rcases hfin with hfin | ⟨hfin, hini, hdecl⟩
  · unfold u_lay at hlay
    rw [if_neg (by rw [hfin]; decide)] at hlay
    have h6 := u_store hfc hkC hkind hlay hi (k3 k h2) hn hfit
    exact W.putK hexec hb (f := f) ⟨hown, hts _ h3, ⟨_, _, _, (by rw [h4] at hi; exact hi)⟩, hst⟩ (by rw [q2]; exact h6) q1 q3 (by rw [hsl]; exact k2_hasslot (q4 k h2)) rfl rfl hdg fin
  · unfold u_lay at hlay
    rw [if_pos hfin] at hlay
    have hcf : m.cls = cf := by
      obtain ⟨_, _, c', _, _, _, -, -, hf', -, -, -, hown2, -⟩ := Cond.laysFinal_spec hlay
      have e1 : c' = cf := by have := hi.symm.trans hf'; simp at this; exact this.1.symm
      rw [h4, hdecl] at hown2
      rw [← e1]; exact Option.some.inj (hown.symm.trans hown2)
    have h6 := u_fits hfc hkC hkind (Or.inr hlay) hi (k3 k h2) hn hfit
    exact W.putFinK hexec hb hown (hts _ h3) (by rw [h4] at hi; exact hi) hst hcf hini (by rw [q2]; exact h6) q1 q3 (by rw [hsl]; exact k2_hasslot (q4 k h2)) rfl rfl hdg fin
theorem q_nar {ci k : Nat} (h1 : ci < 6) (hl : (q_lay ci)[k]? = some false) {x : Int32} (hx : q_isb ci k = true → x = 0 ∨ x = 1) : narrow (q_ty ci k) (.int x) = .int x ∧ fits (q_ty ci k) (.int x) = true := by
  rcases q_intty ci h1 k (List.getElem?_eq_some_iff.mp hl).1 hl with ht | ht
  · rw [ht]; exact ⟨rfl, rfl⟩
  · rcases hx (by simp [q_isb, ht]) with rfl | rfl <;> rw [ht] <;> exact ⟨rfl, rfl⟩
theorem q_nrf {t : FieldType} (ht : q_isref t = true) (n : Nat) : narrow t (q_rv n) = q_rv n ∧ fits t (q_rv n) = true := by
  by_cases hn : n = 0
  · subst hn
    cases t <;> first | exact ⟨rfl, rfl⟩ | simp [q_isref] at ht
  · rw [q_rv_n hn]
    cases t <;> first | exact ⟨rfl, rfl⟩ | simp [q_isref] at ht
theorem x_puti (hexec : p.tables.exec = Jvm.exec) (hb : c.code = cc) (hts : ∀ w ∈ q_tbl, w.before args s = true) (hown : s.vm.findClass own = some m.cls) (hK : va_K D vwCl (q_tys cy) s) (hW : q_HW D cy b0 σ h H) (hS : va_S (fun q => b0 ≤ q) H0 H locs) {idx ci k : Nat} (hf : q_fok own (idx, ci, k)) (ht : q_tag σ a = ci + 1)
    (hfin : ((q_cl ci).2.1 k).2.2.2 = false ∨ (((q_cl ci).2.1 k).2.2.2 = true ∧ meth.name = "<init>" ∧ (q_cl ci).1 = own)) (hl : (q_lay ci)[k]? = some false) {x : Int32} (hx : q_isb ci k = true → x = 0 ∨ x = 1) (hdg : decode cc pc = .ok (.putfield idx, 3))
    (kk : ∀ (H1 : Heap) (locs1 : List Loc), q_HW D cy b0 σ (q_si h a k x) H1 → va_S (fun q => b0 ≤ q) H0 H1 locs1 → W p l e R s m args below meth c H1 locs1 cells slots Q (F0 m (pc + 3) ls rest)) : W p l e R s m args below meth c H locs cells slots Q (F0 m pc ls (.int x :: .ref a :: rest)) := by
  have hn := q_nar hf.1 hl hx
  refine x_putv (σ' := σ) (h' := q_si h a k x) hexec hb hts hown hK hW hS hf ht hfin hn.1 hn.2 hdg rfl rfl rfl (fun _ _ => rfl) (fun b hb => va_up_ne _ _ hb) (fun _ _ => rfl) ?_ kk
  have := q_fl_seti (q_ref σ a) (h.1 a) x (q_lay ci) 0 k hl
  rw [Nat.zero_add] at this
  rw [← this]
  simp [q_si, va_up_self]
theorem x_putr (hexec : p.tables.exec = Jvm.exec) (hb : c.code = cc) (hts : ∀ w ∈ q_tbl, w.before args s = true) (hown : s.vm.findClass own = some m.cls) (hK : va_K D vwCl (q_tys cy) s) (hW : q_HW D cy b0 σ h H) (hS : va_S (fun q => b0 ≤ q) H0 H locs) {idx ci k : Nat} (hf : q_fok own (idx, ci, k)) (ht : q_tag σ a = ci + 1)
    (hfin : ((q_cl ci).2.1 k).2.2.2 = false ∨ (((q_cl ci).2.1 k).2.2.2 = true ∧ meth.name = "<init>" ∧ (q_cl ci).1 = own)) (hl : (q_lay ci)[k]? = some true) {n : Nat} (hdg : decode cc pc = .ok (.putfield idx, 3))
    (kk : ∀ (H1 : Heap) (locs1 : List Loc), q_HW D cy b0 (q_sr σ a k n) h H1 → va_S (fun q => b0 ≤ q) H0 H1 locs1 → W p l e R s m args below meth c H1 locs1 cells slots Q (F0 m (pc + 3) ls rest)) : W p l e R s m args below meth c H locs cells slots Q (F0 m pc ls (q_rv n :: .ref a :: rest)) := by
  have hn := q_nrf (q_refty ci hf.1 k (List.getElem?_eq_some_iff.mp hl).1 hl) n
  refine x_putv (σ' := q_sr σ a k n) (h' := h) hexec hb hts hown hK hW hS hf ht hfin hn.1 hn.2 hdg rfl rfl rfl (fun b hb => va_up_ne _ _ hb) (fun _ _ => rfl) (fun _ _ => rfl) ?_ kk
  have := q_fl_setr (q_ref σ a) (h.1 a) n (q_lay ci) 0 k hl
  rw [Nat.zero_add] at this
  rw [← this]
  simp [q_sr, q_ref, va_up_self]
theorem x_aast (hexec : p.tables.exec = Jvm.exec) (hb : c.code = cc) (hK : va_K D vwCl (q_tys cy) s) (hW : q_HW D cy b0 σ h H) (hS : va_S (fun q => b0 ≤ q) H0 H locs) {v : Nat} (ht : (q_tag σ a = 9 ∧ q_tag σ v = 2) ∨ (q_tag σ a = 10 ∧ q_tag σ v = 4)) {i : Int32} (hin : vp_in i (q_len σ a)) (hdg : decode cc pc = .ok (.aastore, 1))
    (kk : ∀ (H1 : Heap) (locs1 : List Loc), q_HW D cy b0 (q_sr σ a i.toNatClampNeg v) h H1 → va_S (fun q => b0 ≤ q) H0 H1 locs1 → W p l e R s m args below meth c H1 locs1 cells slots Q (F0 m (pc + 1) ls rest)) : W p l e R s m args below meth c H locs cells slots Q (F0 m pc ls (.ref v :: .int i :: .ref a :: rest)) := by
  have hlt : i.toNatClampNeg < q_len σ a := Nat.not_le.mp fun q => hin (Or.inr q)
  have hi0 : ¬ i < 0 := fun q => hin (Or.inl q)
  obtain ⟨n, ci, t0, ht1, ht2, hci, hty, hcl⟩ : ∃ n ci t0, q_tag σ a = n + 9 ∧ q_tag σ v = ci + 1 ∧ ci < 6 ∧ (q_tys cy)[t0]? = some (cy (n + 2), FieldType.object (q_cl ci).1) ∧ vwCl[ci]? = some (q_cl ci) := by
    rcases ht with ⟨x, y⟩ | ⟨x, y⟩
    · exact ⟨0, 1, 2, x, y, by omega, rfl, rfl⟩
    · exact ⟨1, 3, 3, x, y, by omega, rfl, rfl⟩
  have h0 : q_tag σ a ≠ 0 := by rw [ht1]; omega
  have hv0 : q_tag σ v ≠ 0 := by rw [ht2]; omega
  obtain ⟨q0, hq⟩ := q_at hW h0
  obtain ⟨q1, hv⟩ := q_at hW hv0
  have hq' := hq
  rw [q_cell_refs ht1] at hq'
  rw [q_cell_obj ht2 hci] at hv
  obtain ⟨r', hr', cellV, g1, g2, g3, -⟩ := hW.2.1 q1 _ hv
  have hcls := (hK.1 ci _ hcl).2
  obtain ⟨kA, comp, k1, k2, k3, -⟩ := (hK.2 t0 _ hty).2
  have hcomp : comp = D.1 ci := Option.some.inj (k3.symm.trans hcls.1)
  subst hcomp
  obtain ⟨kC, hkC, -⟩ := hcls.2
  refine W.aast hexec hb (hW.2.1 q0 _ hq') (fun q h => by cases h) (fun h => by cases h) k1 k2 rfl hkC ⟨hi0, by show _ < (arrV _ _ _).slots.size; rw [arrV_size]; exact hlt⟩ g1 (fun q h => by rw [g3] at h; cases h) (by rw [g2]; exact hkC) (by rw [g2]; exact va_assign hcls) rfl rfl hdg fun H1 e z oq => ?_
  refine kk H1 _ (q_wr (σ' := q_sr σ a i.toNatClampNeg v) (h' := h) hW h0 hq (hW.2.1.set (q_D hW _) hq (e := .inl (cy (n + 2), q_len σ a, .inr (.inr (.inr (.inr (va_up (fun k => q_op (q_ref σ a k)) i.toNatClampNeg (some v))))))) ?_ oq) z rfl rfl rfl (fun b hb => va_up_ne _ _ hb) (fun _ _ => rfl) (fun _ _ => rfl) ?_) (hS.put z oq (hW.2.2.2.2 a h0).1)
  · show H1[a]? = some (vp_cell _ _)
    rw [e]
    rw [vp_cell_q, vp_cell_q, arrV_store]
    congr 2
    funext q
    by_cases hq : q = i.toNatClampNeg
    · subst hq
      simp [updV, va_up, va_rf]
    · simp [updV, va_up, hq]
  · rw [q_cell_refs (c := n) (show q_tag (q_sr σ a i.toNatClampNeg v) a = n + 9 from ht1)]
    have hvn : v ≠ 0 := q_nz hW hv0
    have : (fun k => q_op (q_ref (q_sr σ a i.toNatClampNeg v) a k)) = va_up (fun k => q_op (q_ref σ a k)) i.toNatClampNeg (some v) := by
      funext k
      by_cases hk : k = i.toNatClampNeg
      · simp [q_sr, q_ref, va_up, hk, q_op, hvn]
      · simp [q_sr, q_ref, va_up, hk]
    rw [this]
    rfl
end QP
