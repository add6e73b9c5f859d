/-! the law's entry -/
theorem lkL_17 : Cond.methodLink RL 17 yX4_init ∈ q_tbl := (q_tb1 18 rfl rfl)
theorem lkL_20 : Cond.methodLink RL 20 yX5_init ∈ q_tbl := (q_tb4 124 rfl rfl)
set_option maxRecDepth 100000 in
set_option maxHeartbeats 4000000 in
theorem lw_entry {p : Program} {e : Env} {s : State} {m : MethodId} {below : List Frame} {meth : Method} {c : Code} {l : Launch} {D : va_G} {cy : Nat → Nat} {b L : Nat} {xs : Nat → Int32} (C0 : VC p room_1 s m #[Value.ref b] meth c D cy s.heap.size 8 60000 400000 RL cL_law) (hr : meth.sig.returnType = ret) (hlk : meth.locks = false) (hl : l.stackTraces = false) (hX : q_TX s.heap.size s) (hxs : va_X b L xs s s.heap) (hbl : b < s.heap.size) (hL : L ≤ 3072) : V p l e room_1 s m #[Value.ref b] below meth c (lw_Z below #[Value.ref b] s) D cy s.heap.size 8 60000 400000 60000 400000 (st_0 s.heap.size) sh_0 0 [(0, .ref b)] [] := by
  obtain ⟨σ1, h1, σ2, h2, e1, z1, e2, z2, I⟩ := i_Inv s.heap.size (by omega)
  have t1 : q_tag (q_nw σ1 6 0) (s.heap.size + 88) = 6 := by have := nw_t (σ := σ1) (t := 6) (n := 0); rwa [z1] at this
  have n1 : ∀ pc lv st, V p l e room_1 s m #[Value.ref b] below meth c (lw_Z below #[Value.ref b] s) D cy s.heap.size 8 60000 400000 (100 * 512 + 1 + 26) (700 * 512 + 1 + 3618) (q_nw σ1 6 0) (q_nh h1 (s.heap.size + 88)) pc lv (.ref (s.heap.size + 88) :: st) → V p l e room_1 s m #[Value.ref b] below meth c (lw_Z below #[Value.ref b] s) D cy s.heap.size 8 60000 400000 (100 * 512 + 1 + 26) (700 * 512 + 1 + 3618) (q_nw σ1 6 0) (q_nh h1 (q_sz σ1)) pc lv (.ref (q_sz σ1) :: st) := fun pc lv st q => by rw [z1]; exact q
  have n2 : ∀ pc lv st, V p l e room_1 s m #[Value.ref b] below meth c (lw_Z below #[Value.ref b] s) D cy s.heap.size 8 60000 400000 (100 * 512) (700 * 512) (q_nw σ2 8 1) (q_nh h2 (s.heap.size + 115)) pc lv (.ref (s.heap.size + 115) :: st) → V p l e room_1 s m #[Value.ref b] below meth c (lw_Z below #[Value.ref b] s) D cy s.heap.size 8 60000 400000 (100 * 512) (700 * 512) (q_nw σ2 8 1) (q_nh h2 (q_sz σ2)) pc lv (.ref (q_sz σ2) :: st) := fun pc lv st q => by rw [z2]; exact q
  generalize hx : s.heap.size = x at *
  refine v_less (kc' := 100 * 512 + 1 + 26 + 1 + 87 + 1) (ks' := 700 * 512 + 1 + 3618 + 44 + 1465 + 12) (by decide) (by decide) ?_
  refine v_new C0 cokLs rfl (ci := 4) (by decide) (q_tb1 16 rfl rfl) (st_inst 4 (by decide)) (q_tb1 1 rfl rfl) (nn := 12) rfl ?_
  refine v_run C0 tbL cokLs (pc' := 4) (lv' := [(0, .ref b)]) (st' := [.ref x, .ref x]) (h' := q_nh sh_0 x) 1 rfl trivial ?_
  refine v_callI C0 cokLs rfl (rest := [.ref x]) (as := []) (kc' := 100 * 512 + 1 + 26 + 1) (ks' := 700 * 512 + 1 + 3618 + 44) (ctX4_init x (nw_t (σ := st_0 x)) e1) calX4_init rfl lkL_17 inX4_init dnX4_init rfl rfl ⟨Nat.le_of_ble_eq_true rfl, Nat.le_of_ble_eq_true rfl⟩ (Nat.le_of_ble_eq_true rfl) (Nat.le_refl _) (Nat.le_refl _) ?_
  refine v_run C0 tbL cokLs (pc' := 8) (lv' := [(1, .ref x), (0, .ref b)]) (st' := []) (h' := h1) 1 rfl trivial ?_
  refine v_new C0 cokLs rfl (ci := 5) (by decide) (q_tb4 122 rfl rfl) (st_inst 5 (by decide)) (q_tb1 6 rfl rfl) (nn := 44) rfl (n1 _ _ _ ?_)
  refine v_run C0 tbL cokLs (pc' := 12) (lv' := [(1, .ref x), (0, .ref b)]) (st' := [.ref (x + 88), .ref (x + 88)]) (h' := q_nh h1 (x + 88)) 1 rfl trivial ?_
  refine v_callI C0 cokLs rfl (rest := [.ref (x + 88)]) (as := []) (kc' := 100 * 512 + 1) (ks' := 700 * 512 + 1) (ctX5_init (x + 88) t1 e2) calX5_init rfl lkL_20 inX5_init dnX5_init rfl rfl ⟨Nat.le_of_ble_eq_true rfl, Nat.le_of_ble_eq_true rfl⟩ (Nat.le_of_ble_eq_true rfl) (Nat.le_refl _) (Nat.le_refl _) ?_
  refine v_run C0 tbL cokLs (pc' := 17) (lv' := [(2, .ref (x + 88)), (1, .ref x), (0, .ref b)]) (st' := [.int 1]) (h' := h2) 2 rfl trivial ?_
  refine v_newl C0 cokLs rfl ac_long (nn := 1) (by decide) (by decide) (by decide) (n2 _ _ _ ?_)
  refine v_run C0 tbL cokLs (pc' := 23) (lv' := lc_lv b x 0) (st' := []) (h' := q_nh h2 (x + 115)) 3 rfl trivial ?_
  subst hx
  exact lw_loop C0 hr hlk hl hX hxs hbl hL 512 0 rfl _ _ I
