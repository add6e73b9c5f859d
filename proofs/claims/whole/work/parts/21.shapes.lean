/-! where the cells of the model, of a shop, of the fitting, of a shelf, of the class lie -/
def k_mr : List (Nat × Nat) := [(1, 1), (2, 2), (3, 3), (4, 4), (5, 5), (7, 6), (8, 7), (9, 8), (10, 9), (11, 10), (12, 11), (15, 12), (16, 13), (17, 14), (18, 15), (19, 16), (20, 17), (26, 18), (27, 19), (28, 20), (29, 21), (30, 22), (36, 23), (39, 24), (40, 25), (43, 26)]
def k_ml : List (Nat × Nat × Nat) := [(1, 7, 8), (2, 7, 8), (3, 7, 8), (4, 7, 8), (5, 7, 8), (6, 7, 7), (7, 7, 7), (8, 7, 7), (9, 7, 7), (10, 7, 7), (11, 7, 7), (12, 7, 8), (13, 7, 8), (14, 7, 8), (15, 7, 8), (16, 7, 8), (17, 8, 800), (18, 7, 51), (19, 7, 51), (20, 7, 255), (21, 7, 90), (22, 7, 90), (23, 7, 4), (24, 7, 2048), (25, 7, 7), (26, 8, 100)]
def k_M (σ : q_St) (m : Nat) : Prop := q_tag σ m = 6 ∧ (∀ p ∈ k_mr, q_ref σ m p.1 = m + p.2) ∧ ∀ p ∈ k_ml, q_tag σ (m + p.1) = p.2.1 ∧ q_len σ (m + p.1) = p.2.2
theorem mt0 {σ : q_St} {m : Nat} (M : k_M σ m) : q_tag σ m = 6 := M.1
theorem mr1 {σ : q_St} {m : Nat} (M : k_M σ m) : q_ref σ m 1 = m + 1 := M.2.1 (1, 1) (by decide)
theorem mr2 {σ : q_St} {m : Nat} (M : k_M σ m) : q_ref σ m 2 = m + 2 := M.2.1 (2, 2) (by decide)
theorem mr3 {σ : q_St} {m : Nat} (M : k_M σ m) : q_ref σ m 3 = m + 3 := M.2.1 (3, 3) (by decide)
theorem mr4 {σ : q_St} {m : Nat} (M : k_M σ m) : q_ref σ m 4 = m + 4 := M.2.1 (4, 4) (by decide)
theorem mr5 {σ : q_St} {m : Nat} (M : k_M σ m) : q_ref σ m 5 = m + 5 := M.2.1 (5, 5) (by decide)
theorem mr7 {σ : q_St} {m : Nat} (M : k_M σ m) : q_ref σ m 7 = m + 6 := M.2.1 (7, 6) (by decide)
theorem mr8 {σ : q_St} {m : Nat} (M : k_M σ m) : q_ref σ m 8 = m + 7 := M.2.1 (8, 7) (by decide)
theorem mr9 {σ : q_St} {m : Nat} (M : k_M σ m) : q_ref σ m 9 = m + 8 := M.2.1 (9, 8) (by decide)
theorem mr10 {σ : q_St} {m : Nat} (M : k_M σ m) : q_ref σ m 10 = m + 9 := M.2.1 (10, 9) (by decide)
theorem mr11 {σ : q_St} {m : Nat} (M : k_M σ m) : q_ref σ m 11 = m + 10 := M.2.1 (11, 10) (by decide)
theorem mr12 {σ : q_St} {m : Nat} (M : k_M σ m) : q_ref σ m 12 = m + 11 := M.2.1 (12, 11) (by decide)
theorem mr15 {σ : q_St} {m : Nat} (M : k_M σ m) : q_ref σ m 15 = m + 12 := M.2.1 (15, 12) (by decide)
theorem mr16 {σ : q_St} {m : Nat} (M : k_M σ m) : q_ref σ m 16 = m + 13 := M.2.1 (16, 13) (by decide)
theorem mr17 {σ : q_St} {m : Nat} (M : k_M σ m) : q_ref σ m 17 = m + 14 := M.2.1 (17, 14) (by decide)
theorem mr18 {σ : q_St} {m : Nat} (M : k_M σ m) : q_ref σ m 18 = m + 15 := M.2.1 (18, 15) (by decide)
theorem mr19 {σ : q_St} {m : Nat} (M : k_M σ m) : q_ref σ m 19 = m + 16 := M.2.1 (19, 16) (by decide)
theorem mr20 {σ : q_St} {m : Nat} (M : k_M σ m) : q_ref σ m 20 = m + 17 := M.2.1 (20, 17) (by decide)
theorem mr26 {σ : q_St} {m : Nat} (M : k_M σ m) : q_ref σ m 26 = m + 18 := M.2.1 (26, 18) (by decide)
theorem mr27 {σ : q_St} {m : Nat} (M : k_M σ m) : q_ref σ m 27 = m + 19 := M.2.1 (27, 19) (by decide)
theorem mr28 {σ : q_St} {m : Nat} (M : k_M σ m) : q_ref σ m 28 = m + 20 := M.2.1 (28, 20) (by decide)
theorem mr29 {σ : q_St} {m : Nat} (M : k_M σ m) : q_ref σ m 29 = m + 21 := M.2.1 (29, 21) (by decide)
theorem mr30 {σ : q_St} {m : Nat} (M : k_M σ m) : q_ref σ m 30 = m + 22 := M.2.1 (30, 22) (by decide)
theorem mr36 {σ : q_St} {m : Nat} (M : k_M σ m) : q_ref σ m 36 = m + 23 := M.2.1 (36, 23) (by decide)
theorem mr39 {σ : q_St} {m : Nat} (M : k_M σ m) : q_ref σ m 39 = m + 24 := M.2.1 (39, 24) (by decide)
theorem mr40 {σ : q_St} {m : Nat} (M : k_M σ m) : q_ref σ m 40 = m + 25 := M.2.1 (40, 25) (by decide)
theorem mr43 {σ : q_St} {m : Nat} (M : k_M σ m) : q_ref σ m 43 = m + 26 := M.2.1 (43, 26) (by decide)
theorem mt1 {σ : q_St} {m : Nat} (M : k_M σ m) : q_tag σ (m + 1) = 7 := (M.2.2 (1, 7, 8) (by decide)).1
theorem ml1 {σ : q_St} {m : Nat} (M : k_M σ m) : q_len σ (m + 1) = 8 := (M.2.2 (1, 7, 8) (by decide)).2
theorem mt2 {σ : q_St} {m : Nat} (M : k_M σ m) : q_tag σ (m + 2) = 7 := (M.2.2 (2, 7, 8) (by decide)).1
theorem ml2 {σ : q_St} {m : Nat} (M : k_M σ m) : q_len σ (m + 2) = 8 := (M.2.2 (2, 7, 8) (by decide)).2
theorem mt3 {σ : q_St} {m : Nat} (M : k_M σ m) : q_tag σ (m + 3) = 7 := (M.2.2 (3, 7, 8) (by decide)).1
theorem ml3 {σ : q_St} {m : Nat} (M : k_M σ m) : q_len σ (m + 3) = 8 := (M.2.2 (3, 7, 8) (by decide)).2
theorem mt4 {σ : q_St} {m : Nat} (M : k_M σ m) : q_tag σ (m + 4) = 7 := (M.2.2 (4, 7, 8) (by decide)).1
theorem ml4 {σ : q_St} {m : Nat} (M : k_M σ m) : q_len σ (m + 4) = 8 := (M.2.2 (4, 7, 8) (by decide)).2
theorem mt5 {σ : q_St} {m : Nat} (M : k_M σ m) : q_tag σ (m + 5) = 7 := (M.2.2 (5, 7, 8) (by decide)).1
theorem ml5 {σ : q_St} {m : Nat} (M : k_M σ m) : q_len σ (m + 5) = 8 := (M.2.2 (5, 7, 8) (by decide)).2
theorem mt6 {σ : q_St} {m : Nat} (M : k_M σ m) : q_tag σ (m + 6) = 7 := (M.2.2 (6, 7, 7) (by decide)).1
theorem ml6 {σ : q_St} {m : Nat} (M : k_M σ m) : q_len σ (m + 6) = 7 := (M.2.2 (6, 7, 7) (by decide)).2
theorem mt7 {σ : q_St} {m : Nat} (M : k_M σ m) : q_tag σ (m + 7) = 7 := (M.2.2 (7, 7, 7) (by decide)).1
theorem ml7 {σ : q_St} {m : Nat} (M : k_M σ m) : q_len σ (m + 7) = 7 := (M.2.2 (7, 7, 7) (by decide)).2
theorem mt8 {σ : q_St} {m : Nat} (M : k_M σ m) : q_tag σ (m + 8) = 7 := (M.2.2 (8, 7, 7) (by decide)).1
theorem ml8 {σ : q_St} {m : Nat} (M : k_M σ m) : q_len σ (m + 8) = 7 := (M.2.2 (8, 7, 7) (by decide)).2
theorem mt9 {σ : q_St} {m : Nat} (M : k_M σ m) : q_tag σ (m + 9) = 7 := (M.2.2 (9, 7, 7) (by decide)).1
theorem ml9 {σ : q_St} {m : Nat} (M : k_M σ m) : q_len σ (m + 9) = 7 := (M.2.2 (9, 7, 7) (by decide)).2
theorem mt10 {σ : q_St} {m : Nat} (M : k_M σ m) : q_tag σ (m + 10) = 7 := (M.2.2 (10, 7, 7) (by decide)).1
theorem ml10 {σ : q_St} {m : Nat} (M : k_M σ m) : q_len σ (m + 10) = 7 := (M.2.2 (10, 7, 7) (by decide)).2
theorem mt11 {σ : q_St} {m : Nat} (M : k_M σ m) : q_tag σ (m + 11) = 7 := (M.2.2 (11, 7, 7) (by decide)).1
theorem ml11 {σ : q_St} {m : Nat} (M : k_M σ m) : q_len σ (m + 11) = 7 := (M.2.2 (11, 7, 7) (by decide)).2
theorem mt12 {σ : q_St} {m : Nat} (M : k_M σ m) : q_tag σ (m + 12) = 7 := (M.2.2 (12, 7, 8) (by decide)).1
theorem ml12 {σ : q_St} {m : Nat} (M : k_M σ m) : q_len σ (m + 12) = 8 := (M.2.2 (12, 7, 8) (by decide)).2
theorem mt13 {σ : q_St} {m : Nat} (M : k_M σ m) : q_tag σ (m + 13) = 7 := (M.2.2 (13, 7, 8) (by decide)).1
theorem ml13 {σ : q_St} {m : Nat} (M : k_M σ m) : q_len σ (m + 13) = 8 := (M.2.2 (13, 7, 8) (by decide)).2
theorem mt14 {σ : q_St} {m : Nat} (M : k_M σ m) : q_tag σ (m + 14) = 7 := (M.2.2 (14, 7, 8) (by decide)).1
theorem ml14 {σ : q_St} {m : Nat} (M : k_M σ m) : q_len σ (m + 14) = 8 := (M.2.2 (14, 7, 8) (by decide)).2
theorem mt15 {σ : q_St} {m : Nat} (M : k_M σ m) : q_tag σ (m + 15) = 7 := (M.2.2 (15, 7, 8) (by decide)).1
theorem ml15 {σ : q_St} {m : Nat} (M : k_M σ m) : q_len σ (m + 15) = 8 := (M.2.2 (15, 7, 8) (by decide)).2
theorem mt16 {σ : q_St} {m : Nat} (M : k_M σ m) : q_tag σ (m + 16) = 7 := (M.2.2 (16, 7, 8) (by decide)).1
theorem ml16 {σ : q_St} {m : Nat} (M : k_M σ m) : q_len σ (m + 16) = 8 := (M.2.2 (16, 7, 8) (by decide)).2
theorem mt17 {σ : q_St} {m : Nat} (M : k_M σ m) : q_tag σ (m + 17) = 8 := (M.2.2 (17, 8, 800) (by decide)).1
theorem ml17 {σ : q_St} {m : Nat} (M : k_M σ m) : q_len σ (m + 17) = 800 := (M.2.2 (17, 8, 800) (by decide)).2
theorem mt18 {σ : q_St} {m : Nat} (M : k_M σ m) : q_tag σ (m + 18) = 7 := (M.2.2 (18, 7, 51) (by decide)).1
theorem ml18 {σ : q_St} {m : Nat} (M : k_M σ m) : q_len σ (m + 18) = 51 := (M.2.2 (18, 7, 51) (by decide)).2
theorem mt19 {σ : q_St} {m : Nat} (M : k_M σ m) : q_tag σ (m + 19) = 7 := (M.2.2 (19, 7, 51) (by decide)).1
theorem ml19 {σ : q_St} {m : Nat} (M : k_M σ m) : q_len σ (m + 19) = 51 := (M.2.2 (19, 7, 51) (by decide)).2
theorem mt20 {σ : q_St} {m : Nat} (M : k_M σ m) : q_tag σ (m + 20) = 7 := (M.2.2 (20, 7, 255) (by decide)).1
theorem ml20 {σ : q_St} {m : Nat} (M : k_M σ m) : q_len σ (m + 20) = 255 := (M.2.2 (20, 7, 255) (by decide)).2
theorem mt21 {σ : q_St} {m : Nat} (M : k_M σ m) : q_tag σ (m + 21) = 7 := (M.2.2 (21, 7, 90) (by decide)).1
theorem ml21 {σ : q_St} {m : Nat} (M : k_M σ m) : q_len σ (m + 21) = 90 := (M.2.2 (21, 7, 90) (by decide)).2
theorem mt22 {σ : q_St} {m : Nat} (M : k_M σ m) : q_tag σ (m + 22) = 7 := (M.2.2 (22, 7, 90) (by decide)).1
theorem ml22 {σ : q_St} {m : Nat} (M : k_M σ m) : q_len σ (m + 22) = 90 := (M.2.2 (22, 7, 90) (by decide)).2
theorem mt23 {σ : q_St} {m : Nat} (M : k_M σ m) : q_tag σ (m + 23) = 7 := (M.2.2 (23, 7, 4) (by decide)).1
theorem ml23 {σ : q_St} {m : Nat} (M : k_M σ m) : q_len σ (m + 23) = 4 := (M.2.2 (23, 7, 4) (by decide)).2
theorem mt24 {σ : q_St} {m : Nat} (M : k_M σ m) : q_tag σ (m + 24) = 7 := (M.2.2 (24, 7, 2048) (by decide)).1
theorem ml24 {σ : q_St} {m : Nat} (M : k_M σ m) : q_len σ (m + 24) = 2048 := (M.2.2 (24, 7, 2048) (by decide)).2
theorem mt25 {σ : q_St} {m : Nat} (M : k_M σ m) : q_tag σ (m + 25) = 7 := (M.2.2 (25, 7, 7) (by decide)).1
theorem ml25 {σ : q_St} {m : Nat} (M : k_M σ m) : q_len σ (m + 25) = 7 := (M.2.2 (25, 7, 7) (by decide)).2
theorem mt26 {σ : q_St} {m : Nat} (M : k_M σ m) : q_tag σ (m + 26) = 8 := (M.2.2 (26, 8, 100) (by decide)).1
theorem ml26 {σ : q_St} {m : Nat} (M : k_M σ m) : q_len σ (m + 26) = 100 := (M.2.2 (26, 8, 100) (by decide)).2
def k_sh (σ : q_St) (a : Nat) : Prop := q_tag σ a = 3 ∧ (∀ k, k ≤ 10 → q_ref σ a k = a + 1 + k) ∧ q_tag σ (a + 1) = 10 ∧ q_len σ (a + 1) = 7 ∧ (∀ k, 2 ≤ k ∧ k ≤ 10 → q_tag σ (a + k) = 7 ∧ q_len σ (a + k) = 7) ∧ q_tag σ (a + 11) = 4 ∧ ∀ s, s < 7 → q_ref σ (a + 1) s = 0 ∨ q_tag σ (q_ref σ (a + 1) s) = 4
theorem st0 {σ : q_St} {a : Nat} (S : k_sh σ a) : q_tag σ a = 3 := S.1
theorem st1 {σ : q_St} {a : Nat} (S : k_sh σ a) : q_tag σ (a + 1) = 10 := S.2.2.1
theorem sl1 {σ : q_St} {a : Nat} (S : k_sh σ a) : q_len σ (a + 1) = 7 := S.2.2.2.1
theorem st11 {σ : q_St} {a : Nat} (S : k_sh σ a) : q_tag σ (a + 11) = 4 := S.2.2.2.2.2.1
theorem sr0 {σ : q_St} {a : Nat} (S : k_sh σ a) : q_ref σ a 0 = a + 1 := (S.2.1 0 (by decide)).trans (by omega)
theorem sr1 {σ : q_St} {a : Nat} (S : k_sh σ a) : q_ref σ a 1 = a + 2 := (S.2.1 1 (by decide)).trans (by omega)
theorem sr2 {σ : q_St} {a : Nat} (S : k_sh σ a) : q_ref σ a 2 = a + 3 := (S.2.1 2 (by decide)).trans (by omega)
theorem sr3 {σ : q_St} {a : Nat} (S : k_sh σ a) : q_ref σ a 3 = a + 4 := (S.2.1 3 (by decide)).trans (by omega)
theorem sr4 {σ : q_St} {a : Nat} (S : k_sh σ a) : q_ref σ a 4 = a + 5 := (S.2.1 4 (by decide)).trans (by omega)
theorem sr5 {σ : q_St} {a : Nat} (S : k_sh σ a) : q_ref σ a 5 = a + 6 := (S.2.1 5 (by decide)).trans (by omega)
theorem sr6 {σ : q_St} {a : Nat} (S : k_sh σ a) : q_ref σ a 6 = a + 7 := (S.2.1 6 (by decide)).trans (by omega)
theorem sr7 {σ : q_St} {a : Nat} (S : k_sh σ a) : q_ref σ a 7 = a + 8 := (S.2.1 7 (by decide)).trans (by omega)
theorem sr8 {σ : q_St} {a : Nat} (S : k_sh σ a) : q_ref σ a 8 = a + 9 := (S.2.1 8 (by decide)).trans (by omega)
theorem sr9 {σ : q_St} {a : Nat} (S : k_sh σ a) : q_ref σ a 9 = a + 10 := (S.2.1 9 (by decide)).trans (by omega)
theorem sr10 {σ : q_St} {a : Nat} (S : k_sh σ a) : q_ref σ a 10 = a + 11 := (S.2.1 10 (by decide)).trans (by omega)
theorem st2 {σ : q_St} {a : Nat} (S : k_sh σ a) : q_tag σ (a + 2) = 7 := (S.2.2.2.2.1 2 (by decide)).1
theorem sl2 {σ : q_St} {a : Nat} (S : k_sh σ a) : q_len σ (a + 2) = 7 := (S.2.2.2.2.1 2 (by decide)).2
theorem st3 {σ : q_St} {a : Nat} (S : k_sh σ a) : q_tag σ (a + 3) = 7 := (S.2.2.2.2.1 3 (by decide)).1
theorem sl3 {σ : q_St} {a : Nat} (S : k_sh σ a) : q_len σ (a + 3) = 7 := (S.2.2.2.2.1 3 (by decide)).2
theorem st4 {σ : q_St} {a : Nat} (S : k_sh σ a) : q_tag σ (a + 4) = 7 := (S.2.2.2.2.1 4 (by decide)).1
theorem sl4 {σ : q_St} {a : Nat} (S : k_sh σ a) : q_len σ (a + 4) = 7 := (S.2.2.2.2.1 4 (by decide)).2
theorem st5 {σ : q_St} {a : Nat} (S : k_sh σ a) : q_tag σ (a + 5) = 7 := (S.2.2.2.2.1 5 (by decide)).1
theorem sl5 {σ : q_St} {a : Nat} (S : k_sh σ a) : q_len σ (a + 5) = 7 := (S.2.2.2.2.1 5 (by decide)).2
theorem st6 {σ : q_St} {a : Nat} (S : k_sh σ a) : q_tag σ (a + 6) = 7 := (S.2.2.2.2.1 6 (by decide)).1
theorem sl6 {σ : q_St} {a : Nat} (S : k_sh σ a) : q_len σ (a + 6) = 7 := (S.2.2.2.2.1 6 (by decide)).2
theorem st7 {σ : q_St} {a : Nat} (S : k_sh σ a) : q_tag σ (a + 7) = 7 := (S.2.2.2.2.1 7 (by decide)).1
theorem sl7 {σ : q_St} {a : Nat} (S : k_sh σ a) : q_len σ (a + 7) = 7 := (S.2.2.2.2.1 7 (by decide)).2
theorem st8 {σ : q_St} {a : Nat} (S : k_sh σ a) : q_tag σ (a + 8) = 7 := (S.2.2.2.2.1 8 (by decide)).1
theorem sl8 {σ : q_St} {a : Nat} (S : k_sh σ a) : q_len σ (a + 8) = 7 := (S.2.2.2.2.1 8 (by decide)).2
theorem st9 {σ : q_St} {a : Nat} (S : k_sh σ a) : q_tag σ (a + 9) = 7 := (S.2.2.2.2.1 9 (by decide)).1
theorem sl9 {σ : q_St} {a : Nat} (S : k_sh σ a) : q_len σ (a + 9) = 7 := (S.2.2.2.2.1 9 (by decide)).2
theorem st10 {σ : q_St} {a : Nat} (S : k_sh σ a) : q_tag σ (a + 10) = 7 := (S.2.2.2.2.1 10 (by decide)).1
theorem sl10 {σ : q_St} {a : Nat} (S : k_sh σ a) : q_len σ (a + 10) = 7 := (S.2.2.2.2.1 10 (by decide)).2
def k_ft (σ : q_St) (a : Nat) : Prop := q_tag σ a = 1 ∧ (∀ k, k ≤ 8 → q_ref σ a k = a + 1 + k) ∧ (∀ k, 1 ≤ k ∧ k ≤ 6 → q_tag σ (a + k) = 7 ∧ q_len σ (a + k) = 8) ∧ ∀ k, 7 ≤ k ∧ k ≤ 9 → q_tag σ (a + k) = 7 ∧ q_len σ (a + k) = 7
theorem ft0 {σ : q_St} {a : Nat} (S : k_ft σ a) : q_tag σ a = 1 := S.1
theorem fr0 {σ : q_St} {a : Nat} (S : k_ft σ a) : q_ref σ a 0 = a + 1 := (S.2.1 0 (by decide)).trans (by omega)
theorem fr1 {σ : q_St} {a : Nat} (S : k_ft σ a) : q_ref σ a 1 = a + 2 := (S.2.1 1 (by decide)).trans (by omega)
theorem fr2 {σ : q_St} {a : Nat} (S : k_ft σ a) : q_ref σ a 2 = a + 3 := (S.2.1 2 (by decide)).trans (by omega)
theorem fr3 {σ : q_St} {a : Nat} (S : k_ft σ a) : q_ref σ a 3 = a + 4 := (S.2.1 3 (by decide)).trans (by omega)
theorem fr4 {σ : q_St} {a : Nat} (S : k_ft σ a) : q_ref σ a 4 = a + 5 := (S.2.1 4 (by decide)).trans (by omega)
theorem fr5 {σ : q_St} {a : Nat} (S : k_ft σ a) : q_ref σ a 5 = a + 6 := (S.2.1 5 (by decide)).trans (by omega)
theorem fr6 {σ : q_St} {a : Nat} (S : k_ft σ a) : q_ref σ a 6 = a + 7 := (S.2.1 6 (by decide)).trans (by omega)
theorem fr7 {σ : q_St} {a : Nat} (S : k_ft σ a) : q_ref σ a 7 = a + 8 := (S.2.1 7 (by decide)).trans (by omega)
theorem fr8 {σ : q_St} {a : Nat} (S : k_ft σ a) : q_ref σ a 8 = a + 9 := (S.2.1 8 (by decide)).trans (by omega)
theorem ft1 {σ : q_St} {a : Nat} (S : k_ft σ a) : q_tag σ (a + 1) = 7 := (S.2.2.1 1 (by decide)).1
theorem fl1 {σ : q_St} {a : Nat} (S : k_ft σ a) : q_len σ (a + 1) = 8 := (S.2.2.1 1 (by decide)).2
theorem ft2 {σ : q_St} {a : Nat} (S : k_ft σ a) : q_tag σ (a + 2) = 7 := (S.2.2.1 2 (by decide)).1
theorem fl2 {σ : q_St} {a : Nat} (S : k_ft σ a) : q_len σ (a + 2) = 8 := (S.2.2.1 2 (by decide)).2
theorem ft3 {σ : q_St} {a : Nat} (S : k_ft σ a) : q_tag σ (a + 3) = 7 := (S.2.2.1 3 (by decide)).1
theorem fl3 {σ : q_St} {a : Nat} (S : k_ft σ a) : q_len σ (a + 3) = 8 := (S.2.2.1 3 (by decide)).2
theorem ft4 {σ : q_St} {a : Nat} (S : k_ft σ a) : q_tag σ (a + 4) = 7 := (S.2.2.1 4 (by decide)).1
theorem fl4 {σ : q_St} {a : Nat} (S : k_ft σ a) : q_len σ (a + 4) = 8 := (S.2.2.1 4 (by decide)).2
theorem ft5 {σ : q_St} {a : Nat} (S : k_ft σ a) : q_tag σ (a + 5) = 7 := (S.2.2.1 5 (by decide)).1
theorem fl5 {σ : q_St} {a : Nat} (S : k_ft σ a) : q_len σ (a + 5) = 8 := (S.2.2.1 5 (by decide)).2
theorem ft6 {σ : q_St} {a : Nat} (S : k_ft σ a) : q_tag σ (a + 6) = 7 := (S.2.2.1 6 (by decide)).1
theorem fl6 {σ : q_St} {a : Nat} (S : k_ft σ a) : q_len σ (a + 6) = 8 := (S.2.2.1 6 (by decide)).2
theorem ft7 {σ : q_St} {a : Nat} (S : k_ft σ a) : q_tag σ (a + 7) = 7 := (S.2.2.2 7 (by decide)).1
theorem fl7 {σ : q_St} {a : Nat} (S : k_ft σ a) : q_len σ (a + 7) = 7 := (S.2.2.2 7 (by decide)).2
theorem ft8 {σ : q_St} {a : Nat} (S : k_ft σ a) : q_tag σ (a + 8) = 7 := (S.2.2.2 8 (by decide)).1
theorem fl8 {σ : q_St} {a : Nat} (S : k_ft σ a) : q_len σ (a + 8) = 7 := (S.2.2.2 8 (by decide)).2
theorem ft9 {σ : q_St} {a : Nat} (S : k_ft σ a) : q_tag σ (a + 9) = 7 := (S.2.2.2 9 (by decide)).1
theorem fl9 {σ : q_St} {a : Nat} (S : k_ft σ a) : q_len σ (a + 9) = 7 := (S.2.2.2 9 (by decide)).2
def k_lf (σ : q_St) (a : Nat) : Prop := q_tag σ a = 2 ∧ q_ref σ a 0 = a + 1 ∧ q_tag σ (a + 1) = 7 ∧ q_len σ (a + 1) = 100 ∧ q_tag σ (q_ref σ a 2) = 4
theorem lt0 {σ : q_St} {a : Nat} (S : k_lf σ a) : q_tag σ a = 2 := S.1
theorem lr0 {σ : q_St} {a : Nat} (S : k_lf σ a) : q_ref σ a 0 = a + 1 := S.2.1
theorem lt1 {σ : q_St} {a : Nat} (S : k_lf σ a) : q_tag σ (a + 1) = 7 := S.2.2.1
theorem ll1 {σ : q_St} {a : Nat} (S : k_lf σ a) : q_len σ (a + 1) = 100 := S.2.2.2.1
theorem lk2 {σ : q_St} {a : Nat} (S : k_lf σ a) : q_tag σ (q_ref σ a 2) = 4 := S.2.2.2.2
def k_xr : List (Nat × Nat) := [(2, 25), (4, 37), (5, 38), (6, 41), (7, 42), (8, 43), (9, 53), (10, 54), (11, 55)]
def k_X (σ : q_St) (x A B : Nat) : Prop := q_tag σ x = 5 ∧ ((A = x + 1 ∧ B = x + 13) ∨ (A = x + 13 ∧ B = x + 1)) ∧ q_ref σ x 0 = A ∧ q_ref σ x 1 = B ∧ (∀ p ∈ k_xr, q_ref σ x p.1 = x + p.2) ∧ k_sh σ A ∧ k_sh σ B ∧ k_sh σ (x + 25) ∧ k_ft σ (x + 43) ∧ (∀ d, d < 8 → q_ref σ (x + 37) d = x + 56 + 3 * d ∧ k_lf σ (x + 56 + 3 * d)) ∧ k_lf σ (x + 38) ∧ (q_tag σ (x + 37) = 9 ∧ q_len σ (x + 37) = 8) ∧ (q_tag σ (x + 41) = 10 ∧ q_len σ (x + 41) = 8) ∧ (∀ k, k < 8 → q_ref σ (x + 41) k = x + 80 + k ∧ q_tag σ (x + 80 + k) = 4) ∧ q_tag σ (x + 42) = 4 ∧ (q_tag σ (x + 53) = 7 ∧ q_len σ (x + 53) = 8) ∧ (q_tag σ (x + 54) = 7 ∧ q_len σ (x + 54) = 7) ∧ (q_tag σ (x + 55) = 7 ∧ q_len σ (x + 55) = 7)
theorem xt0 {σ : q_St} {x A B : Nat} (S : k_X σ x A B) : q_tag σ x = 5 := S.1
theorem xAB {σ : q_St} {x A B : Nat} (S : k_X σ x A B) : (A = x + 1 ∧ B = x + 13) ∨ (A = x + 13 ∧ B = x + 1) := S.2.1
theorem xr0 {σ : q_St} {x A B : Nat} (S : k_X σ x A B) : q_ref σ x 0 = A := S.2.2.1
theorem xr1 {σ : q_St} {x A B : Nat} (S : k_X σ x A B) : q_ref σ x 1 = B := S.2.2.2.1
theorem xr2 {σ : q_St} {x A B : Nat} (S : k_X σ x A B) : q_ref σ x 2 = x + 25 := S.2.2.2.2.1 (2, 25) (by decide)
theorem xr4 {σ : q_St} {x A B : Nat} (S : k_X σ x A B) : q_ref σ x 4 = x + 37 := S.2.2.2.2.1 (4, 37) (by decide)
theorem xr5 {σ : q_St} {x A B : Nat} (S : k_X σ x A B) : q_ref σ x 5 = x + 38 := S.2.2.2.2.1 (5, 38) (by decide)
theorem xr6 {σ : q_St} {x A B : Nat} (S : k_X σ x A B) : q_ref σ x 6 = x + 41 := S.2.2.2.2.1 (6, 41) (by decide)
theorem xr7 {σ : q_St} {x A B : Nat} (S : k_X σ x A B) : q_ref σ x 7 = x + 42 := S.2.2.2.2.1 (7, 42) (by decide)
theorem xr8 {σ : q_St} {x A B : Nat} (S : k_X σ x A B) : q_ref σ x 8 = x + 43 := S.2.2.2.2.1 (8, 43) (by decide)
theorem xr9 {σ : q_St} {x A B : Nat} (S : k_X σ x A B) : q_ref σ x 9 = x + 53 := S.2.2.2.2.1 (9, 53) (by decide)
theorem xr10 {σ : q_St} {x A B : Nat} (S : k_X σ x A B) : q_ref σ x 10 = x + 54 := S.2.2.2.2.1 (10, 54) (by decide)
theorem xr11 {σ : q_St} {x A B : Nat} (S : k_X σ x A B) : q_ref σ x 11 = x + 55 := S.2.2.2.2.1 (11, 55) (by decide)
theorem xA {σ : q_St} {x A B : Nat} (S : k_X σ x A B) : k_sh σ A := S.2.2.2.2.2.1
theorem xB {σ : q_St} {x A B : Nat} (S : k_X σ x A B) : k_sh σ B := S.2.2.2.2.2.2.1
theorem xP {σ : q_St} {x A B : Nat} (S : k_X σ x A B) : k_sh σ (x + 25) := S.2.2.2.2.2.2.2.1
theorem xF {σ : q_St} {x A B : Nat} (S : k_X σ x A B) : k_ft σ (x + 43) := S.2.2.2.2.2.2.2.2.1
theorem xL {σ : q_St} {x A B : Nat} (S : k_X σ x A B) : ∀ d, d < 8 → k_lf σ (x + 56 + 3 * d) := fun d hd => (S.2.2.2.2.2.2.2.2.2.1 d hd).2
theorem xLr {σ : q_St} {x A B : Nat} (S : k_X σ x A B) : ∀ d, d < 8 → q_ref σ (x + 37) d = x + 56 + 3 * d := fun d hd => (S.2.2.2.2.2.2.2.2.2.1 d hd).1
theorem xN {σ : q_St} {x A B : Nat} (S : k_X σ x A B) : k_lf σ (x + 38) := S.2.2.2.2.2.2.2.2.2.2.1
theorem xt37 {σ : q_St} {x A B : Nat} (S : k_X σ x A B) : q_tag σ (x + 37) = 9 := (S.2.2.2.2.2.2.2.2.2.2.2.1).1
theorem xl37 {σ : q_St} {x A B : Nat} (S : k_X σ x A B) : q_len σ (x + 37) = 8 := (S.2.2.2.2.2.2.2.2.2.2.2.1).2
theorem xt41 {σ : q_St} {x A B : Nat} (S : k_X σ x A B) : q_tag σ (x + 41) = 10 := (S.2.2.2.2.2.2.2.2.2.2.2.2.1).1
theorem xl41 {σ : q_St} {x A B : Nat} (S : k_X σ x A B) : q_len σ (x + 41) = 8 := (S.2.2.2.2.2.2.2.2.2.2.2.2.1).2
theorem xK {σ : q_St} {x A B : Nat} (S : k_X σ x A B) : ∀ k, k < 8 → q_ref σ (x + 41) k = x + 80 + k ∧ q_tag σ (x + 80 + k) = 4 := S.2.2.2.2.2.2.2.2.2.2.2.2.2.1
theorem xt42 {σ : q_St} {x A B : Nat} (S : k_X σ x A B) : q_tag σ (x + 42) = 4 := S.2.2.2.2.2.2.2.2.2.2.2.2.2.2.1
theorem xt53 {σ : q_St} {x A B : Nat} (S : k_X σ x A B) : q_tag σ (x + 53) = 7 := (S.2.2.2.2.2.2.2.2.2.2.2.2.2.2.2.1).1
theorem xl53 {σ : q_St} {x A B : Nat} (S : k_X σ x A B) : q_len σ (x + 53) = 8 := (S.2.2.2.2.2.2.2.2.2.2.2.2.2.2.2.1).2
theorem xt54 {σ : q_St} {x A B : Nat} (S : k_X σ x A B) : q_tag σ (x + 54) = 7 := (S.2.2.2.2.2.2.2.2.2.2.2.2.2.2.2.2.1).1
theorem xl54 {σ : q_St} {x A B : Nat} (S : k_X σ x A B) : q_len σ (x + 54) = 7 := (S.2.2.2.2.2.2.2.2.2.2.2.2.2.2.2.2.1).2
theorem xt55 {σ : q_St} {x A B : Nat} (S : k_X σ x A B) : q_tag σ (x + 55) = 7 := (S.2.2.2.2.2.2.2.2.2.2.2.2.2.2.2.2.2).1
theorem xl55 {σ : q_St} {x A B : Nat} (S : k_X σ x A B) : q_len σ (x + 55) = 7 := (S.2.2.2.2.2.2.2.2.2.2.2.2.2.2.2.2.2).2
