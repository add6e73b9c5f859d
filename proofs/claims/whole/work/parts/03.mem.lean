/-! MY WORDS. A system's memory as numbers: which cell is of which kind and length, what references and numbers stand in it. -/
abbrev q_St : Type := Nat × (Nat → Nat) × (Nat → Nat) × (Nat → Nat → Nat)
abbrev q_Hp : Type := (Nat → Nat → Int32) × (Nat → Nat → Int64)
/-- the first address that is free -/
def q_sz (σ : q_St) : Nat := σ.1
/-- a cell's kind: 0 none of ours, 1 .. 6 an object of class 0 .. 5 of vwCl, 7 ints, 8 longs, 9 shelves, 10 suits -/
def q_tag (σ : q_St) : Nat → Nat := σ.2.1
def q_len (σ : q_St) : Nat → Nat := σ.2.2.1
/-- references; 0 is null -/
def q_ref (σ : q_St) : Nat → Nat → Nat := σ.2.2.2
def q_int (h : q_Hp) : Nat → Nat → Int32 := h.1
def q_lng (h : q_Hp) : Nat → Nat → Int64 := h.2
def q_si (h : q_Hp) (a k : Nat) (v : Int32) : q_Hp := (va_up h.1 a (upd (h.1 a) k v), h.2)
def q_sj (h : q_Hp) (a k : Nat) (v : Int64) : q_Hp := (h.1, va_up h.2 a (vp_updL (h.2 a) k v))
def q_sr (σ : q_St) (a k v : Nat) : q_St := (σ.1, σ.2.1, σ.2.2.1, va_up σ.2.2.2 a (va_up (σ.2.2.2 a) k v))
/-- a new cell of kind t, length n -/
def q_nw (σ : q_St) (t n : Nat) : q_St := (σ.1 + 1, va_up σ.2.1 σ.1 t, va_up σ.2.2.1 σ.1 n, va_up σ.2.2.2 σ.1 (fun _ => 0))
def q_nh (h : q_Hp) (a : Nat) : q_Hp := (va_up h.1 a (fun _ => 0), va_up h.2 a (fun _ => 0))
def q_op (n : Nat) : Option Nat := if n = 0 then none else some n
/-- a reference's value -/
def q_rv (n : Nat) : Value := va_rf (q_op n)
theorem q_rv_0 : q_rv 0 = .null := rfl
theorem q_rv_n {n : Nat} (h : n ≠ 0) : q_rv n = .ref n := by simp [q_rv, q_op, h, va_rf]
/-- which fields of a class are references -/
def q_lay : Nat → List Bool
  | 0 => [true, true, true, true, true, true, true, true, true, false, false]
  | 1 => [true, false, true, false, false]
  | 2 => [true, true, true, true, true, true, true, true, true, true, true, false, false, false, false]
  | 3 => [false, false, false, false, false, false, false]
  | 4 => [true, true, true, false, true, true, true, true, true, true, true, true]
  | _ => [false, true, true, true, true, true, false, true, true, true, true, true, true, false, false, true, true, true, true, true, true, false, false, false, false, false, true, true, true, true, true, false, false, false, true, false, true, false, false, true, true, false, false, true]
def q_fl (r : Nat → Nat) (f : Nat → Int32) : List Bool → Nat → List Value
  | [], _ => []
  | b :: l, k => (if b then q_rv (r k) else .int (f k)) :: q_fl r f l (k + 1)
theorem q_fl_len (r : Nat → Nat) (f : Nat → Int32) : ∀ (l : List Bool) (k : Nat), (q_fl r f l k).length = l.length
  | [], _ => rfl
  | _ :: l, k => by simp [q_fl, q_fl_len r f l (k + 1)]
theorem q_fl_get (r : Nat → Nat) (f : Nat → Int32) : ∀ (l : List Bool) (k j : Nat) (b : Bool), l[j]? = some b → (q_fl r f l k)[j]? = some (if b then q_rv (r (k + j)) else .int (f (k + j)))
  | [], _, j, b, h => by simp at h
  | c :: l, k, 0, b, h => by
    have : c = b := by simpa using h
    subst this
    simp [q_fl]
  | c :: l, k, j + 1, b, h => by
    have h' : l[j]? = some b := by simpa using h
    have := q_fl_get r f l (k + 1) j b h'
    rw [show k + 1 + j = k + (j + 1) by omega] at this
    simpa [q_fl] using this
theorem q_fl_cong {r r' : Nat → Nat} {f f' : Nat → Int32} : ∀ (l : List Bool) (k : Nat), (∀ i, k ≤ i → r i = r' i ∧ f i = f' i) → q_fl r f l k = q_fl r' f' l k
  | [], _, _ => rfl
  | b :: l, k, h => by
    simp only [q_fl, (h k (Nat.le_refl k)).1, (h k (Nat.le_refl k)).2, q_fl_cong l (k + 1) (fun i hi => h i (by omega))]
theorem q_fl_seti (r : Nat → Nat) (f : Nat → Int32) (v : Int32) : ∀ (l : List Bool) (k j : Nat), l[j]? = some false → q_fl r (upd f (k + j) v) l k = (q_fl r f l k).set j (.int v)
  | [], _, j, h => by simp at h
  | c :: l, k, 0, h => by
    have : c = false := by simpa using h
    subst this
    have e := q_fl_cong (r := r) (r' := r) (f := upd f k v) (f' := f) l (k + 1) (fun i hi => ⟨rfl, by simp [upd, show i ≠ k by omega]⟩)
    simp [q_fl, upd]
    exact e
  | c :: l, k, j + 1, h => by
    have h' : l[j]? = some false := by simpa using h
    have e := q_fl_seti r f v l (k + 1) j h'
    rw [show k + 1 + j = k + (j + 1) by omega] at e
    simp [q_fl, upd, show k ≠ k + (j + 1) by omega]
    exact e
theorem q_fl_setr (r : Nat → Nat) (f : Nat → Int32) (v : Nat) : ∀ (l : List Bool) (k j : Nat), l[j]? = some true → q_fl (va_up r (k + j) v) f l k = (q_fl r f l k).set j (q_rv v)
  | [], _, j, h => by simp at h
  | c :: l, k, 0, h => by
    have : c = true := by simpa using h
    subst this
    have e := q_fl_cong (r := va_up r k v) (r' := r) (f := f) (f' := f) l (k + 1) (fun i hi => ⟨by simp [va_up, show i ≠ k by omega], rfl⟩)
    simp [q_fl, va_up]
    exact e
  | c :: l, k, j + 1, h => by
    have h' : l[j]? = some true := by simpa using h
    have e := q_fl_setr r f v l (k + 1) j h'
    rw [show k + 1 + j = k + (j + 1) by omega] at e
    simp [q_fl, va_up, show k ≠ k + (j + 1) by omega]
    exact e
/-- what a cell holds -/
def q_cell (cy : Nat → Nat) (σ : q_St) (h : q_Hp) (a : Nat) : va_E :=
  if q_tag σ a ≤ 6 then .inr (q_tag σ a - 1, q_fl (q_ref σ a) (h.1 a) (q_lay (q_tag σ a - 1)) 0)
  else if q_tag σ a = 7 then .inl (cy 0, q_len σ a, .inl (h.1 a))
  else if q_tag σ a = 8 then .inl (cy 1, q_len σ a, .inr (.inl (h.2 a)))
  else .inl (cy (q_tag σ a - 7), q_len σ a, .inr (.inr (.inr (.inr (fun k => q_op (q_ref σ a k))))))
def q_L (σ : q_St) : List Nat := (List.range σ.1).filter (fun a => !(σ.2.1 a == 0))
theorem q_L_mem {σ : q_St} {a : Nat} : a ∈ q_L σ ↔ a < q_sz σ ∧ q_tag σ a ≠ 0 := by
  simp [q_L, q_sz, q_tag, List.mem_filter]
theorem q_L_nodup (σ : q_St) : (q_L σ).Nodup := List.Pairwise.filter _ (List.nodup_range (n := σ.1))
def q_tys (cy : Nat → Nat) : List (ClassId × FieldType) := [(cy 0, .int), (cy 1, .long), (cy 2, .object RX1), (cy 3, .object RX3)]
/-- the world in a heap -/
def q_HW (D : va_G) (cy : Nat → Nat) (b0 : Nat) (σ : q_St) (h : q_Hp) (H : Heap) : Prop :=
  H.size = q_sz σ ∧ va_P D vwCl ([] ++ va_pl (q_L σ) (q_cell cy σ h)) H ∧ 0 < b0 ∧ b0 ≤ q_sz σ ∧ ∀ a, q_tag σ a ≠ 0 → b0 ≤ a ∧ a < q_sz σ
theorem q_D {D : va_G} {cy : Nat → Nat} {b0 : Nat} {σ : q_St} {h : q_Hp} {H : Heap} (hW : q_HW D cy b0 σ h H) (f : Nat → va_E) : va_D (fun q => b0 ≤ q) ([] ++ va_pl (q_L σ) f) := by
  refine ⟨fun i j p q hi hj hpq => ?_, fun k q hk => ?_⟩
  · simp only [List.nil_append, va_pl, List.getElem?_map] at hi hj
    cases hx : (q_L σ)[i]? with
    | none => rw [hx] at hi; cases hi
    | some x =>
      cases hy : (q_L σ)[j]? with
      | none => rw [hy] at hj; cases hj
      | some y =>
        rw [hx] at hi; rw [hy] at hj
        cases hi; cases hj
        have hxy : x = y := hpq
        subst hxy
        have hli := (List.getElem?_eq_some_iff.mp hx).1
        exact (List.getElem?_inj hli (q_L_nodup σ)).mp (hx.trans hy.symm)
  · simp only [List.nil_append, va_pl, List.getElem?_map] at hk
    cases hx : (q_L σ)[k]? with
    | none => rw [hx] at hk; cases hk
    | some x =>
      rw [hx] at hk
      cases hk
      exact (hW.2.2.2.2 x (q_L_mem.mp (List.mem_of_getElem? hx)).2).1
theorem q_in {D : va_G} {cy : Nat → Nat} {b0 : Nat} {σ : q_St} {h : q_Hp} {H : Heap} (hW : q_HW D cy b0 σ h H) {a : Nat} (ha : q_tag σ a ≠ 0) : a ∈ q_L σ := q_L_mem.mpr ⟨(hW.2.2.2.2 a ha).2, ha⟩
theorem q_at {D : va_G} {cy : Nat → Nat} {b0 : Nat} {σ : q_St} {h : q_Hp} {H : Heap} (hW : q_HW D cy b0 σ h H) {a : Nat} (ha : q_tag σ a ≠ 0) : ∃ k : Nat, ([] ++ va_pl (q_L σ) (q_cell cy σ h))[k]? = some (a, q_cell cy σ h a) := va_pl_get (q_in hW ha)
theorem q_nz {D : va_G} {cy : Nat → Nat} {b0 : Nat} {σ : q_St} {h : q_Hp} {H : Heap} (hW : q_HW D cy b0 σ h H) {a : Nat} (ha : q_tag σ a ≠ 0) : a ≠ 0 := fun q => by
  have := (hW.2.2.2.2 a ha).1
  have := hW.2.2.1
  omega
theorem q_cell_obj {cy : Nat → Nat} {σ : q_St} {h : q_Hp} {a c : Nat} (ht : q_tag σ a = c + 1) (hc : c < 6) : q_cell cy σ h a = .inr (c, q_fl (q_ref σ a) (h.1 a) (q_lay c) 0) := by
  simp [q_cell, ht, show c + 1 ≤ 6 by omega]
theorem q_cell_ints {cy : Nat → Nat} {σ : q_St} {h : q_Hp} {a : Nat} (ht : q_tag σ a = 7) : q_cell cy σ h a = .inl (cy 0, q_len σ a, .inl (h.1 a)) := by
  simp [q_cell, ht]
theorem q_cell_longs {cy : Nat → Nat} {σ : q_St} {h : q_Hp} {a : Nat} (ht : q_tag σ a = 8) : q_cell cy σ h a = .inl (cy 1, q_len σ a, .inr (.inl (h.2 a))) := by
  simp [q_cell, ht]
theorem q_cell_refs {cy : Nat → Nat} {σ : q_St} {h : q_Hp} {a c : Nat} (ht : q_tag σ a = c + 9) : q_cell cy σ h a = .inl (cy (c + 2), q_len σ a, .inr (.inr (.inr (.inr (fun k => q_op (q_ref σ a k)))))) := by
  simp [q_cell, ht]
theorem q_cell_cong {cy : Nat → Nat} {σ σ' : q_St} {h h' : q_Hp} {a : Nat} (e1 : q_tag σ a = q_tag σ' a) (e2 : q_len σ a = q_len σ' a) (e3 : q_ref σ a = q_ref σ' a) (e4 : h.1 a = h'.1 a) (e5 : h.2 a = h'.2 a) : q_cell cy σ h a = q_cell cy σ' h' a := by
  simp only [q_cell, e1, e2, e3, e4, e5]
/-- one cell of the world is written -/
theorem q_wr {D : va_G} {cy : Nat → Nat} {b0 : Nat} {σ σ' : q_St} {h h' : q_Hp} {H H1 : Heap} (hW : q_HW D cy b0 σ h H) {a k : Nat} (ha : q_tag σ a ≠ 0) (hk : ([] ++ va_pl (q_L σ) (q_cell cy σ h))[k]? = some (a, q_cell cy σ h a)) {e : va_E}
    (hP : va_P D vwCl (([] ++ va_pl (q_L σ) (q_cell cy σ h)).set k (a, e)) H1) (hz : H1.size = H.size) (e0 : q_sz σ' = q_sz σ) (e1 : q_tag σ' = q_tag σ) (e2 : q_len σ' = q_len σ) (e3 : ∀ b, b ≠ a → q_ref σ' b = q_ref σ b) (e4 : ∀ b, b ≠ a → h'.1 b = h.1 b) (e5 : ∀ b, b ≠ a → h'.2 b = h.2 b) (he : e = q_cell cy σ' h' a) : q_HW D cy b0 σ' h' H1 := by
  have hL : q_L σ' = q_L σ := by
    unfold q_L
    rw [show σ'.1 = σ.1 from e0, show σ'.2.1 = σ.2.1 from e1]
  refine ⟨by rw [hz, e0]; exact hW.1, ?_, hW.2.2.1, by rw [e0]; exact hW.2.2.2.1, fun b hb => by rw [e0]; rw [e1] at hb; exact hW.2.2.2.2 b hb⟩
  rw [va_pl_set (q_D hW _) (q_in hW ha) hk] at hP
  rw [hL]
  refine (va_pl_congr (f := va_up (q_cell cy σ h) a e) (g := q_cell cy σ' h') (L := q_L σ) (fun b => ?_)) ▸ hP
  by_cases hb : b = a
  · subst hb
    rw [va_up_self, he]
  · rw [va_up_ne _ _ hb]
    exact q_cell_cong (by rw [e1]) (by rw [e2]) (e3 b hb).symm (e4 b hb).symm (e5 b hb).symm
