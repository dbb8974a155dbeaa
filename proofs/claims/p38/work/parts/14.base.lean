/-! arithmetic in its bounds -/
theorem z_add_eq {a b : Int} (h1 : -2147483648 ≤ a + b) (h2 : a + b ≤ 2147483647) : z_add a b = a + b := by
  unfold z_add
  rw [← Int32.ofInt_add]
  exact z_of ⟨h1, h2⟩
theorem z_sub_eq {a b : Int} (h1 : -2147483648 ≤ a - b) (h2 : a - b ≤ 2147483647) : z_sub a b = a - b := by
  unfold z_sub
  rw [← Int32.ofInt_sub]
  exact z_of ⟨h1, h2⟩
theorem z_mul_eq {a b : Int} (h1 : -2147483648 ≤ a * b) (h2 : a * b ≤ 2147483647) : z_mul a b = a * b := by
  unfold z_mul
  rw [← Int32.ofInt_mul]
  exact z_of ⟨h1, h2⟩
theorem z_add_rg (a b : Int) : z_rg (z_add a b) := z_rgT _
theorem z_sub_rg (a b : Int) : z_rg (z_sub a b) := z_rgT _
theorem z_mul_rg (a b : Int) : z_rg (z_mul a b) := z_rgT _
/-! what changes -/
def z_ch (S : List Nat) (w w' : z_W) : Prop := w'.2 = w.2 ∧ ∀ p, p ∉ S → ∀ k, z_I w' p k = z_I w p k
theorem z_ch_rf (S : List Nat) (w : z_W) : z_ch S w w := ⟨rfl, fun _ _ _ => rfl⟩
theorem z_ch_tr {S : List Nat} {w w' w'' : z_W} (h : z_ch S w w') (h2 : z_ch S w' w'') : z_ch S w w'' := ⟨h2.1.trans h.1, fun p hp k => (h2.2 p hp k).trans (h.2 p hp k)⟩
theorem z_ch_mo {S S' : List Nat} {w w' : z_W} (h : z_ch S w w') (hs : ∀ p ∈ S, p ∈ S') : z_ch S' w w' := ⟨h.1, fun p hp k => h.2 p (fun q => hp (hs p q)) k⟩
theorem z_ch_sI {S : List Nat} {w w' : z_W} {p : Nat} {k z : Int} (h : z_ch S w w') (hp : p ∈ S) : z_ch S w (z_sI w' p k z) := ⟨h.1, fun q hq j => by rw [z_I_sI, if_neg (fun x => hq (by rw [x.1]; exact hp))]; exact h.2 q hq j⟩
theorem z_ch_cp {S : List Nat} {w w' : z_W} {src dst : Nat} {sp dp n : Int} (h : z_ch S w w') (hp : dst ∈ S) : z_ch S w (z_cp w' src sp dst dp n) := ⟨h.1, fun q hq j => by rw [z_I_cp, if_neg (fun x => hq (by rw [x.1]; exact hp))]; exact h.2 q hq j⟩
theorem z_k_ch {S : List Nat} {w w' : z_W} (h : z_ch S w w') (p : Nat) : z_k w' p = z_k w p := by unfold z_k; rw [h.1]
theorem z_len_ch {S : List Nat} {w w' : z_W} (h : z_ch S w w') (p : Nat) : z_len w' p = z_len w p := by unfold z_len; rw [h.1]
theorem z_R_ch {S : List Nat} {w w' : z_W} (h : z_ch S w w') (p : Nat) (k : Int) : z_R w' p k = z_R w p k := by unfold z_R; rw [h.1]
theorem z_N_ch {S : List Nat} {w w' : z_W} (h : z_ch S w w') : z_N w' = z_N w := by unfold z_N; rw [h.1]
/-! the layout -/
def z_lk : List (Nat × Nat × Int) := [(1, 103, 4), (2, 11, 19), (3, 10, 2), (4, 100, 480), (5, 7, 7), (6, 100, 120), (7, 100, 50), (8, 9, 2), (9, 100, 72), (10, 100, 50), (11, 102, 4), (12, 3, 2), (13, 100, 120), (14, 8, 11), (15, 100, 48), (16, 100, 47), (17, 100, 1128), (18, 100, 25), (19, 100, 25), (20, 100, 10), (21, 100, 10), (22, 3, 2), (23, 100, 120), (24, 8, 11), (25, 100, 48), (26, 100, 47), (27, 100, 1128), (28, 100, 25), (29, 100, 25), (30, 100, 10), (31, 100, 10), (32, 5, 3), (33, 100, 4800), (34, 6, 2), (35, 100, 300), (36, 3, 2), (37, 100, 120), (38, 6, 2), (39, 100, 300), (40, 100, 4), (41, 0, 7), (42, 4, 5), (43, 100, 2257), (44, 100, 2257), (45, 100, 2257), (46, 100, 2257), (47, 1, 2), (48, 100, 10), (49, 12, 39), (50, 100, 480), (51, 100, 120), (52, 100, 40), (53, 100, 10), (54, 100, 360), (55, 100, 5), (56, 100, 301), (57, 100, 120), (58, 100, 4), (59, 100, 40), (60, 100, 10), (61, 100, 49), (62, 100, 1152), (63, 100, 48), (64, 100, 10), (65, 100, 10), (66, 100, 2304), (67, 100, 2304), (68, 100, 2), (69, 100, 1152), (70, 100, 12040), (71, 100, 4096), (72, 100, 1152), (73, 100, 48), (74, 100, 120), (75, 100, 301), (76, 101, 1)]
def z_lr : List (Nat × Int × Nat) := [(2, 0, 3), (2, 1, 5), (2, 2, 10), (2, 3, 11), (2, 6, 12), (2, 7, 14), (2, 8, 22), (2, 9, 24), (2, 10, 32), (2, 11, 34), (2, 13, 36), (2, 14, 38), (2, 15, 40), (2, 16, 41), (2, 17, 42), (2, 18, 47), (3, 0, 4), (5, 0, 6), (5, 2, 7), (5, 3, 8), (5, 4, 3), (8, 0, 9), (12, 0, 13), (14, 2, 12), (14, 3, 15), (14, 4, 16), (14, 5, 17), (14, 6, 18), (14, 7, 19), (14, 9, 20), (14, 10, 21), (22, 0, 23), (24, 2, 22), (24, 3, 25), (24, 4, 26), (24, 5, 27), (24, 6, 28), (24, 7, 29), (24, 9, 30), (24, 10, 31), (32, 1, 33), (34, 0, 35), (36, 0, 37), (38, 0, 39), (42, 0, 43), (42, 1, 44), (42, 2, 45), (42, 3, 46), (47, 1, 48), (49, 1, 50), (49, 5, 51), (49, 6, 52), (49, 7, 53), (49, 9, 54), (49, 10, 55), (49, 12, 56), (49, 13, 57), (49, 14, 58), (49, 15, 59), (49, 16, 60), (49, 18, 61), (49, 19, 62), (49, 20, 63), (49, 23, 64), (49, 24, 65), (49, 25, 66), (49, 26, 67), (49, 27, 68), (49, 28, 69), (49, 29, 70), (49, 32, 71), (49, 33, 72), (49, 34, 73), (49, 36, 74), (49, 37, 75)]
def z_lay (w : z_W) : Prop := (∀ q ∈ z_lk, z_k w q.1 = q.2.1 ∧ z_len w q.1 = q.2.2) ∧ (∀ q ∈ z_lr, z_R w q.1 q.2.1 = some q.2.2) ∧ z_k w 0 = 103 ∧ 77 ≤ z_N w
theorem z_lay_eq {w w' : z_W} (h : w'.2 = w.2) (hl : z_lay w) : z_lay w' := by
  unfold z_lay z_k z_len z_R z_N at hl ⊢
  rw [h]
  exact hl
theorem z_lay_sI {w : z_W} {p : Nat} {k z : Int} : z_lay (z_sI w p k z) ↔ z_lay w := ⟨z_lay_eq rfl, z_lay_eq rfl⟩
theorem z_lay_ch {S : List Nat} {w w' : z_W} (h : z_ch S w w') (hl : z_lay w) : z_lay w' := z_lay_eq h.1 hl
theorem lk1 {w : z_W} (h : z_lay w) : z_k w 1 = 103 := (h.1 (1, 103, 4) (by decide)).1
theorem ll1 {w : z_W} (h : z_lay w) : z_len w 1 = 4 := (h.1 (1, 103, 4) (by decide)).2
theorem lk2 {w : z_W} (h : z_lay w) : z_k w 2 = 11 := (h.1 (2, 11, 19) (by decide)).1
theorem lk3 {w : z_W} (h : z_lay w) : z_k w 3 = 10 := (h.1 (3, 10, 2) (by decide)).1
theorem lk4 {w : z_W} (h : z_lay w) : z_k w 4 = 100 := (h.1 (4, 100, 480) (by decide)).1
theorem ll4 {w : z_W} (h : z_lay w) : z_len w 4 = 480 := (h.1 (4, 100, 480) (by decide)).2
theorem lk5 {w : z_W} (h : z_lay w) : z_k w 5 = 7 := (h.1 (5, 7, 7) (by decide)).1
theorem lk6 {w : z_W} (h : z_lay w) : z_k w 6 = 100 := (h.1 (6, 100, 120) (by decide)).1
theorem ll6 {w : z_W} (h : z_lay w) : z_len w 6 = 120 := (h.1 (6, 100, 120) (by decide)).2
theorem lk7 {w : z_W} (h : z_lay w) : z_k w 7 = 100 := (h.1 (7, 100, 50) (by decide)).1
theorem ll7 {w : z_W} (h : z_lay w) : z_len w 7 = 50 := (h.1 (7, 100, 50) (by decide)).2
theorem lk8 {w : z_W} (h : z_lay w) : z_k w 8 = 9 := (h.1 (8, 9, 2) (by decide)).1
theorem lk9 {w : z_W} (h : z_lay w) : z_k w 9 = 100 := (h.1 (9, 100, 72) (by decide)).1
theorem ll9 {w : z_W} (h : z_lay w) : z_len w 9 = 72 := (h.1 (9, 100, 72) (by decide)).2
theorem lk10 {w : z_W} (h : z_lay w) : z_k w 10 = 100 := (h.1 (10, 100, 50) (by decide)).1
theorem ll10 {w : z_W} (h : z_lay w) : z_len w 10 = 50 := (h.1 (10, 100, 50) (by decide)).2
theorem lk11 {w : z_W} (h : z_lay w) : z_k w 11 = 102 := (h.1 (11, 102, 4) (by decide)).1
theorem ll11 {w : z_W} (h : z_lay w) : z_len w 11 = 4 := (h.1 (11, 102, 4) (by decide)).2
theorem lk12 {w : z_W} (h : z_lay w) : z_k w 12 = 3 := (h.1 (12, 3, 2) (by decide)).1
theorem lk13 {w : z_W} (h : z_lay w) : z_k w 13 = 100 := (h.1 (13, 100, 120) (by decide)).1
theorem ll13 {w : z_W} (h : z_lay w) : z_len w 13 = 120 := (h.1 (13, 100, 120) (by decide)).2
theorem lk14 {w : z_W} (h : z_lay w) : z_k w 14 = 8 := (h.1 (14, 8, 11) (by decide)).1
theorem lk15 {w : z_W} (h : z_lay w) : z_k w 15 = 100 := (h.1 (15, 100, 48) (by decide)).1
theorem ll15 {w : z_W} (h : z_lay w) : z_len w 15 = 48 := (h.1 (15, 100, 48) (by decide)).2
theorem lk16 {w : z_W} (h : z_lay w) : z_k w 16 = 100 := (h.1 (16, 100, 47) (by decide)).1
theorem ll16 {w : z_W} (h : z_lay w) : z_len w 16 = 47 := (h.1 (16, 100, 47) (by decide)).2
theorem lk17 {w : z_W} (h : z_lay w) : z_k w 17 = 100 := (h.1 (17, 100, 1128) (by decide)).1
theorem ll17 {w : z_W} (h : z_lay w) : z_len w 17 = 1128 := (h.1 (17, 100, 1128) (by decide)).2
theorem lk18 {w : z_W} (h : z_lay w) : z_k w 18 = 100 := (h.1 (18, 100, 25) (by decide)).1
theorem ll18 {w : z_W} (h : z_lay w) : z_len w 18 = 25 := (h.1 (18, 100, 25) (by decide)).2
theorem lk19 {w : z_W} (h : z_lay w) : z_k w 19 = 100 := (h.1 (19, 100, 25) (by decide)).1
theorem ll19 {w : z_W} (h : z_lay w) : z_len w 19 = 25 := (h.1 (19, 100, 25) (by decide)).2
theorem lk20 {w : z_W} (h : z_lay w) : z_k w 20 = 100 := (h.1 (20, 100, 10) (by decide)).1
theorem ll20 {w : z_W} (h : z_lay w) : z_len w 20 = 10 := (h.1 (20, 100, 10) (by decide)).2
theorem lk21 {w : z_W} (h : z_lay w) : z_k w 21 = 100 := (h.1 (21, 100, 10) (by decide)).1
theorem ll21 {w : z_W} (h : z_lay w) : z_len w 21 = 10 := (h.1 (21, 100, 10) (by decide)).2
theorem lk22 {w : z_W} (h : z_lay w) : z_k w 22 = 3 := (h.1 (22, 3, 2) (by decide)).1
theorem lk23 {w : z_W} (h : z_lay w) : z_k w 23 = 100 := (h.1 (23, 100, 120) (by decide)).1
theorem ll23 {w : z_W} (h : z_lay w) : z_len w 23 = 120 := (h.1 (23, 100, 120) (by decide)).2
theorem lk24 {w : z_W} (h : z_lay w) : z_k w 24 = 8 := (h.1 (24, 8, 11) (by decide)).1
theorem lk25 {w : z_W} (h : z_lay w) : z_k w 25 = 100 := (h.1 (25, 100, 48) (by decide)).1
theorem ll25 {w : z_W} (h : z_lay w) : z_len w 25 = 48 := (h.1 (25, 100, 48) (by decide)).2
theorem lk26 {w : z_W} (h : z_lay w) : z_k w 26 = 100 := (h.1 (26, 100, 47) (by decide)).1
theorem ll26 {w : z_W} (h : z_lay w) : z_len w 26 = 47 := (h.1 (26, 100, 47) (by decide)).2
theorem lk27 {w : z_W} (h : z_lay w) : z_k w 27 = 100 := (h.1 (27, 100, 1128) (by decide)).1
theorem ll27 {w : z_W} (h : z_lay w) : z_len w 27 = 1128 := (h.1 (27, 100, 1128) (by decide)).2
theorem lk28 {w : z_W} (h : z_lay w) : z_k w 28 = 100 := (h.1 (28, 100, 25) (by decide)).1
theorem ll28 {w : z_W} (h : z_lay w) : z_len w 28 = 25 := (h.1 (28, 100, 25) (by decide)).2
theorem lk29 {w : z_W} (h : z_lay w) : z_k w 29 = 100 := (h.1 (29, 100, 25) (by decide)).1
theorem ll29 {w : z_W} (h : z_lay w) : z_len w 29 = 25 := (h.1 (29, 100, 25) (by decide)).2
theorem lk30 {w : z_W} (h : z_lay w) : z_k w 30 = 100 := (h.1 (30, 100, 10) (by decide)).1
theorem ll30 {w : z_W} (h : z_lay w) : z_len w 30 = 10 := (h.1 (30, 100, 10) (by decide)).2
theorem lk31 {w : z_W} (h : z_lay w) : z_k w 31 = 100 := (h.1 (31, 100, 10) (by decide)).1
theorem ll31 {w : z_W} (h : z_lay w) : z_len w 31 = 10 := (h.1 (31, 100, 10) (by decide)).2
theorem lk32 {w : z_W} (h : z_lay w) : z_k w 32 = 5 := (h.1 (32, 5, 3) (by decide)).1
theorem lk33 {w : z_W} (h : z_lay w) : z_k w 33 = 100 := (h.1 (33, 100, 4800) (by decide)).1
theorem ll33 {w : z_W} (h : z_lay w) : z_len w 33 = 4800 := (h.1 (33, 100, 4800) (by decide)).2
theorem lk34 {w : z_W} (h : z_lay w) : z_k w 34 = 6 := (h.1 (34, 6, 2) (by decide)).1
theorem lk35 {w : z_W} (h : z_lay w) : z_k w 35 = 100 := (h.1 (35, 100, 300) (by decide)).1
theorem ll35 {w : z_W} (h : z_lay w) : z_len w 35 = 300 := (h.1 (35, 100, 300) (by decide)).2
theorem lk36 {w : z_W} (h : z_lay w) : z_k w 36 = 3 := (h.1 (36, 3, 2) (by decide)).1
theorem lk37 {w : z_W} (h : z_lay w) : z_k w 37 = 100 := (h.1 (37, 100, 120) (by decide)).1
theorem ll37 {w : z_W} (h : z_lay w) : z_len w 37 = 120 := (h.1 (37, 100, 120) (by decide)).2
theorem lk38 {w : z_W} (h : z_lay w) : z_k w 38 = 6 := (h.1 (38, 6, 2) (by decide)).1
theorem lk39 {w : z_W} (h : z_lay w) : z_k w 39 = 100 := (h.1 (39, 100, 300) (by decide)).1
theorem ll39 {w : z_W} (h : z_lay w) : z_len w 39 = 300 := (h.1 (39, 100, 300) (by decide)).2
theorem lk40 {w : z_W} (h : z_lay w) : z_k w 40 = 100 := (h.1 (40, 100, 4) (by decide)).1
theorem ll40 {w : z_W} (h : z_lay w) : z_len w 40 = 4 := (h.1 (40, 100, 4) (by decide)).2
theorem lk41 {w : z_W} (h : z_lay w) : z_k w 41 = 0 := (h.1 (41, 0, 7) (by decide)).1
theorem lk42 {w : z_W} (h : z_lay w) : z_k w 42 = 4 := (h.1 (42, 4, 5) (by decide)).1
theorem lk43 {w : z_W} (h : z_lay w) : z_k w 43 = 100 := (h.1 (43, 100, 2257) (by decide)).1
theorem ll43 {w : z_W} (h : z_lay w) : z_len w 43 = 2257 := (h.1 (43, 100, 2257) (by decide)).2
theorem lk44 {w : z_W} (h : z_lay w) : z_k w 44 = 100 := (h.1 (44, 100, 2257) (by decide)).1
theorem ll44 {w : z_W} (h : z_lay w) : z_len w 44 = 2257 := (h.1 (44, 100, 2257) (by decide)).2
theorem lk45 {w : z_W} (h : z_lay w) : z_k w 45 = 100 := (h.1 (45, 100, 2257) (by decide)).1
theorem ll45 {w : z_W} (h : z_lay w) : z_len w 45 = 2257 := (h.1 (45, 100, 2257) (by decide)).2
theorem lk46 {w : z_W} (h : z_lay w) : z_k w 46 = 100 := (h.1 (46, 100, 2257) (by decide)).1
theorem ll46 {w : z_W} (h : z_lay w) : z_len w 46 = 2257 := (h.1 (46, 100, 2257) (by decide)).2
theorem lk47 {w : z_W} (h : z_lay w) : z_k w 47 = 1 := (h.1 (47, 1, 2) (by decide)).1
theorem lk48 {w : z_W} (h : z_lay w) : z_k w 48 = 100 := (h.1 (48, 100, 10) (by decide)).1
theorem ll48 {w : z_W} (h : z_lay w) : z_len w 48 = 10 := (h.1 (48, 100, 10) (by decide)).2
theorem lk49 {w : z_W} (h : z_lay w) : z_k w 49 = 12 := (h.1 (49, 12, 39) (by decide)).1
theorem lk50 {w : z_W} (h : z_lay w) : z_k w 50 = 100 := (h.1 (50, 100, 480) (by decide)).1
theorem ll50 {w : z_W} (h : z_lay w) : z_len w 50 = 480 := (h.1 (50, 100, 480) (by decide)).2
theorem lk51 {w : z_W} (h : z_lay w) : z_k w 51 = 100 := (h.1 (51, 100, 120) (by decide)).1
theorem ll51 {w : z_W} (h : z_lay w) : z_len w 51 = 120 := (h.1 (51, 100, 120) (by decide)).2
theorem lk52 {w : z_W} (h : z_lay w) : z_k w 52 = 100 := (h.1 (52, 100, 40) (by decide)).1
theorem ll52 {w : z_W} (h : z_lay w) : z_len w 52 = 40 := (h.1 (52, 100, 40) (by decide)).2
theorem lk53 {w : z_W} (h : z_lay w) : z_k w 53 = 100 := (h.1 (53, 100, 10) (by decide)).1
theorem ll53 {w : z_W} (h : z_lay w) : z_len w 53 = 10 := (h.1 (53, 100, 10) (by decide)).2
theorem lk54 {w : z_W} (h : z_lay w) : z_k w 54 = 100 := (h.1 (54, 100, 360) (by decide)).1
theorem ll54 {w : z_W} (h : z_lay w) : z_len w 54 = 360 := (h.1 (54, 100, 360) (by decide)).2
theorem lk55 {w : z_W} (h : z_lay w) : z_k w 55 = 100 := (h.1 (55, 100, 5) (by decide)).1
theorem ll55 {w : z_W} (h : z_lay w) : z_len w 55 = 5 := (h.1 (55, 100, 5) (by decide)).2
theorem lk56 {w : z_W} (h : z_lay w) : z_k w 56 = 100 := (h.1 (56, 100, 301) (by decide)).1
theorem ll56 {w : z_W} (h : z_lay w) : z_len w 56 = 301 := (h.1 (56, 100, 301) (by decide)).2
theorem lk57 {w : z_W} (h : z_lay w) : z_k w 57 = 100 := (h.1 (57, 100, 120) (by decide)).1
theorem ll57 {w : z_W} (h : z_lay w) : z_len w 57 = 120 := (h.1 (57, 100, 120) (by decide)).2
theorem lk58 {w : z_W} (h : z_lay w) : z_k w 58 = 100 := (h.1 (58, 100, 4) (by decide)).1
theorem ll58 {w : z_W} (h : z_lay w) : z_len w 58 = 4 := (h.1 (58, 100, 4) (by decide)).2
theorem lk59 {w : z_W} (h : z_lay w) : z_k w 59 = 100 := (h.1 (59, 100, 40) (by decide)).1
theorem ll59 {w : z_W} (h : z_lay w) : z_len w 59 = 40 := (h.1 (59, 100, 40) (by decide)).2
theorem lk60 {w : z_W} (h : z_lay w) : z_k w 60 = 100 := (h.1 (60, 100, 10) (by decide)).1
theorem ll60 {w : z_W} (h : z_lay w) : z_len w 60 = 10 := (h.1 (60, 100, 10) (by decide)).2
theorem lk61 {w : z_W} (h : z_lay w) : z_k w 61 = 100 := (h.1 (61, 100, 49) (by decide)).1
theorem ll61 {w : z_W} (h : z_lay w) : z_len w 61 = 49 := (h.1 (61, 100, 49) (by decide)).2
theorem lk62 {w : z_W} (h : z_lay w) : z_k w 62 = 100 := (h.1 (62, 100, 1152) (by decide)).1
theorem ll62 {w : z_W} (h : z_lay w) : z_len w 62 = 1152 := (h.1 (62, 100, 1152) (by decide)).2
theorem lk63 {w : z_W} (h : z_lay w) : z_k w 63 = 100 := (h.1 (63, 100, 48) (by decide)).1
theorem ll63 {w : z_W} (h : z_lay w) : z_len w 63 = 48 := (h.1 (63, 100, 48) (by decide)).2
theorem lk64 {w : z_W} (h : z_lay w) : z_k w 64 = 100 := (h.1 (64, 100, 10) (by decide)).1
theorem ll64 {w : z_W} (h : z_lay w) : z_len w 64 = 10 := (h.1 (64, 100, 10) (by decide)).2
theorem lk65 {w : z_W} (h : z_lay w) : z_k w 65 = 100 := (h.1 (65, 100, 10) (by decide)).1
theorem ll65 {w : z_W} (h : z_lay w) : z_len w 65 = 10 := (h.1 (65, 100, 10) (by decide)).2
theorem lk66 {w : z_W} (h : z_lay w) : z_k w 66 = 100 := (h.1 (66, 100, 2304) (by decide)).1
theorem ll66 {w : z_W} (h : z_lay w) : z_len w 66 = 2304 := (h.1 (66, 100, 2304) (by decide)).2
theorem lk67 {w : z_W} (h : z_lay w) : z_k w 67 = 100 := (h.1 (67, 100, 2304) (by decide)).1
theorem ll67 {w : z_W} (h : z_lay w) : z_len w 67 = 2304 := (h.1 (67, 100, 2304) (by decide)).2
theorem lk68 {w : z_W} (h : z_lay w) : z_k w 68 = 100 := (h.1 (68, 100, 2) (by decide)).1
theorem ll68 {w : z_W} (h : z_lay w) : z_len w 68 = 2 := (h.1 (68, 100, 2) (by decide)).2
theorem lk69 {w : z_W} (h : z_lay w) : z_k w 69 = 100 := (h.1 (69, 100, 1152) (by decide)).1
theorem ll69 {w : z_W} (h : z_lay w) : z_len w 69 = 1152 := (h.1 (69, 100, 1152) (by decide)).2
theorem lk70 {w : z_W} (h : z_lay w) : z_k w 70 = 100 := (h.1 (70, 100, 12040) (by decide)).1
theorem ll70 {w : z_W} (h : z_lay w) : z_len w 70 = 12040 := (h.1 (70, 100, 12040) (by decide)).2
theorem lk71 {w : z_W} (h : z_lay w) : z_k w 71 = 100 := (h.1 (71, 100, 4096) (by decide)).1
theorem ll71 {w : z_W} (h : z_lay w) : z_len w 71 = 4096 := (h.1 (71, 100, 4096) (by decide)).2
theorem lk72 {w : z_W} (h : z_lay w) : z_k w 72 = 100 := (h.1 (72, 100, 1152) (by decide)).1
theorem ll72 {w : z_W} (h : z_lay w) : z_len w 72 = 1152 := (h.1 (72, 100, 1152) (by decide)).2
theorem lk73 {w : z_W} (h : z_lay w) : z_k w 73 = 100 := (h.1 (73, 100, 48) (by decide)).1
theorem ll73 {w : z_W} (h : z_lay w) : z_len w 73 = 48 := (h.1 (73, 100, 48) (by decide)).2
theorem lk74 {w : z_W} (h : z_lay w) : z_k w 74 = 100 := (h.1 (74, 100, 120) (by decide)).1
theorem ll74 {w : z_W} (h : z_lay w) : z_len w 74 = 120 := (h.1 (74, 100, 120) (by decide)).2
theorem lk75 {w : z_W} (h : z_lay w) : z_k w 75 = 100 := (h.1 (75, 100, 301) (by decide)).1
theorem ll75 {w : z_W} (h : z_lay w) : z_len w 75 = 301 := (h.1 (75, 100, 301) (by decide)).2
theorem lk76 {w : z_W} (h : z_lay w) : z_k w 76 = 101 := (h.1 (76, 101, 1) (by decide)).1
theorem ll76 {w : z_W} (h : z_lay w) : z_len w 76 = 1 := (h.1 (76, 101, 1) (by decide)).2
theorem lr2_0 {w : z_W} (h : z_lay w) : z_R w 2 0 = some 3 := h.2.1 (2, 0, 3) (by decide)
theorem lr2_1 {w : z_W} (h : z_lay w) : z_R w 2 1 = some 5 := h.2.1 (2, 1, 5) (by decide)
theorem lr2_2 {w : z_W} (h : z_lay w) : z_R w 2 2 = some 10 := h.2.1 (2, 2, 10) (by decide)
theorem lr2_3 {w : z_W} (h : z_lay w) : z_R w 2 3 = some 11 := h.2.1 (2, 3, 11) (by decide)
theorem lr2_6 {w : z_W} (h : z_lay w) : z_R w 2 6 = some 12 := h.2.1 (2, 6, 12) (by decide)
theorem lr2_7 {w : z_W} (h : z_lay w) : z_R w 2 7 = some 14 := h.2.1 (2, 7, 14) (by decide)
theorem lr2_8 {w : z_W} (h : z_lay w) : z_R w 2 8 = some 22 := h.2.1 (2, 8, 22) (by decide)
theorem lr2_9 {w : z_W} (h : z_lay w) : z_R w 2 9 = some 24 := h.2.1 (2, 9, 24) (by decide)
theorem lr2_10 {w : z_W} (h : z_lay w) : z_R w 2 10 = some 32 := h.2.1 (2, 10, 32) (by decide)
theorem lr2_11 {w : z_W} (h : z_lay w) : z_R w 2 11 = some 34 := h.2.1 (2, 11, 34) (by decide)
theorem lr2_13 {w : z_W} (h : z_lay w) : z_R w 2 13 = some 36 := h.2.1 (2, 13, 36) (by decide)
theorem lr2_14 {w : z_W} (h : z_lay w) : z_R w 2 14 = some 38 := h.2.1 (2, 14, 38) (by decide)
theorem lr2_15 {w : z_W} (h : z_lay w) : z_R w 2 15 = some 40 := h.2.1 (2, 15, 40) (by decide)
theorem lr2_16 {w : z_W} (h : z_lay w) : z_R w 2 16 = some 41 := h.2.1 (2, 16, 41) (by decide)
theorem lr2_17 {w : z_W} (h : z_lay w) : z_R w 2 17 = some 42 := h.2.1 (2, 17, 42) (by decide)
theorem lr2_18 {w : z_W} (h : z_lay w) : z_R w 2 18 = some 47 := h.2.1 (2, 18, 47) (by decide)
theorem lr3_0 {w : z_W} (h : z_lay w) : z_R w 3 0 = some 4 := h.2.1 (3, 0, 4) (by decide)
theorem lr5_0 {w : z_W} (h : z_lay w) : z_R w 5 0 = some 6 := h.2.1 (5, 0, 6) (by decide)
theorem lr5_2 {w : z_W} (h : z_lay w) : z_R w 5 2 = some 7 := h.2.1 (5, 2, 7) (by decide)
theorem lr5_3 {w : z_W} (h : z_lay w) : z_R w 5 3 = some 8 := h.2.1 (5, 3, 8) (by decide)
theorem lr5_4 {w : z_W} (h : z_lay w) : z_R w 5 4 = some 3 := h.2.1 (5, 4, 3) (by decide)
theorem lr8_0 {w : z_W} (h : z_lay w) : z_R w 8 0 = some 9 := h.2.1 (8, 0, 9) (by decide)
theorem lr12_0 {w : z_W} (h : z_lay w) : z_R w 12 0 = some 13 := h.2.1 (12, 0, 13) (by decide)
theorem lr14_2 {w : z_W} (h : z_lay w) : z_R w 14 2 = some 12 := h.2.1 (14, 2, 12) (by decide)
theorem lr14_3 {w : z_W} (h : z_lay w) : z_R w 14 3 = some 15 := h.2.1 (14, 3, 15) (by decide)
theorem lr14_4 {w : z_W} (h : z_lay w) : z_R w 14 4 = some 16 := h.2.1 (14, 4, 16) (by decide)
theorem lr14_5 {w : z_W} (h : z_lay w) : z_R w 14 5 = some 17 := h.2.1 (14, 5, 17) (by decide)
theorem lr14_6 {w : z_W} (h : z_lay w) : z_R w 14 6 = some 18 := h.2.1 (14, 6, 18) (by decide)
theorem lr14_7 {w : z_W} (h : z_lay w) : z_R w 14 7 = some 19 := h.2.1 (14, 7, 19) (by decide)
theorem lr14_9 {w : z_W} (h : z_lay w) : z_R w 14 9 = some 20 := h.2.1 (14, 9, 20) (by decide)
theorem lr14_10 {w : z_W} (h : z_lay w) : z_R w 14 10 = some 21 := h.2.1 (14, 10, 21) (by decide)
theorem lr22_0 {w : z_W} (h : z_lay w) : z_R w 22 0 = some 23 := h.2.1 (22, 0, 23) (by decide)
theorem lr24_2 {w : z_W} (h : z_lay w) : z_R w 24 2 = some 22 := h.2.1 (24, 2, 22) (by decide)
theorem lr24_3 {w : z_W} (h : z_lay w) : z_R w 24 3 = some 25 := h.2.1 (24, 3, 25) (by decide)
theorem lr24_4 {w : z_W} (h : z_lay w) : z_R w 24 4 = some 26 := h.2.1 (24, 4, 26) (by decide)
theorem lr24_5 {w : z_W} (h : z_lay w) : z_R w 24 5 = some 27 := h.2.1 (24, 5, 27) (by decide)
theorem lr24_6 {w : z_W} (h : z_lay w) : z_R w 24 6 = some 28 := h.2.1 (24, 6, 28) (by decide)
theorem lr24_7 {w : z_W} (h : z_lay w) : z_R w 24 7 = some 29 := h.2.1 (24, 7, 29) (by decide)
theorem lr24_9 {w : z_W} (h : z_lay w) : z_R w 24 9 = some 30 := h.2.1 (24, 9, 30) (by decide)
theorem lr24_10 {w : z_W} (h : z_lay w) : z_R w 24 10 = some 31 := h.2.1 (24, 10, 31) (by decide)
theorem lr32_1 {w : z_W} (h : z_lay w) : z_R w 32 1 = some 33 := h.2.1 (32, 1, 33) (by decide)
theorem lr34_0 {w : z_W} (h : z_lay w) : z_R w 34 0 = some 35 := h.2.1 (34, 0, 35) (by decide)
theorem lr36_0 {w : z_W} (h : z_lay w) : z_R w 36 0 = some 37 := h.2.1 (36, 0, 37) (by decide)
theorem lr38_0 {w : z_W} (h : z_lay w) : z_R w 38 0 = some 39 := h.2.1 (38, 0, 39) (by decide)
theorem lr42_0 {w : z_W} (h : z_lay w) : z_R w 42 0 = some 43 := h.2.1 (42, 0, 43) (by decide)
theorem lr42_1 {w : z_W} (h : z_lay w) : z_R w 42 1 = some 44 := h.2.1 (42, 1, 44) (by decide)
theorem lr42_2 {w : z_W} (h : z_lay w) : z_R w 42 2 = some 45 := h.2.1 (42, 2, 45) (by decide)
theorem lr42_3 {w : z_W} (h : z_lay w) : z_R w 42 3 = some 46 := h.2.1 (42, 3, 46) (by decide)
theorem lr47_1 {w : z_W} (h : z_lay w) : z_R w 47 1 = some 48 := h.2.1 (47, 1, 48) (by decide)
theorem lr49_1 {w : z_W} (h : z_lay w) : z_R w 49 1 = some 50 := h.2.1 (49, 1, 50) (by decide)
theorem lr49_5 {w : z_W} (h : z_lay w) : z_R w 49 5 = some 51 := h.2.1 (49, 5, 51) (by decide)
theorem lr49_6 {w : z_W} (h : z_lay w) : z_R w 49 6 = some 52 := h.2.1 (49, 6, 52) (by decide)
theorem lr49_7 {w : z_W} (h : z_lay w) : z_R w 49 7 = some 53 := h.2.1 (49, 7, 53) (by decide)
theorem lr49_9 {w : z_W} (h : z_lay w) : z_R w 49 9 = some 54 := h.2.1 (49, 9, 54) (by decide)
theorem lr49_10 {w : z_W} (h : z_lay w) : z_R w 49 10 = some 55 := h.2.1 (49, 10, 55) (by decide)
theorem lr49_12 {w : z_W} (h : z_lay w) : z_R w 49 12 = some 56 := h.2.1 (49, 12, 56) (by decide)
theorem lr49_13 {w : z_W} (h : z_lay w) : z_R w 49 13 = some 57 := h.2.1 (49, 13, 57) (by decide)
theorem lr49_14 {w : z_W} (h : z_lay w) : z_R w 49 14 = some 58 := h.2.1 (49, 14, 58) (by decide)
theorem lr49_15 {w : z_W} (h : z_lay w) : z_R w 49 15 = some 59 := h.2.1 (49, 15, 59) (by decide)
theorem lr49_16 {w : z_W} (h : z_lay w) : z_R w 49 16 = some 60 := h.2.1 (49, 16, 60) (by decide)
theorem lr49_18 {w : z_W} (h : z_lay w) : z_R w 49 18 = some 61 := h.2.1 (49, 18, 61) (by decide)
theorem lr49_19 {w : z_W} (h : z_lay w) : z_R w 49 19 = some 62 := h.2.1 (49, 19, 62) (by decide)
theorem lr49_20 {w : z_W} (h : z_lay w) : z_R w 49 20 = some 63 := h.2.1 (49, 20, 63) (by decide)
theorem lr49_23 {w : z_W} (h : z_lay w) : z_R w 49 23 = some 64 := h.2.1 (49, 23, 64) (by decide)
theorem lr49_24 {w : z_W} (h : z_lay w) : z_R w 49 24 = some 65 := h.2.1 (49, 24, 65) (by decide)
theorem lr49_25 {w : z_W} (h : z_lay w) : z_R w 49 25 = some 66 := h.2.1 (49, 25, 66) (by decide)
theorem lr49_26 {w : z_W} (h : z_lay w) : z_R w 49 26 = some 67 := h.2.1 (49, 26, 67) (by decide)
theorem lr49_27 {w : z_W} (h : z_lay w) : z_R w 49 27 = some 68 := h.2.1 (49, 27, 68) (by decide)
theorem lr49_28 {w : z_W} (h : z_lay w) : z_R w 49 28 = some 69 := h.2.1 (49, 28, 69) (by decide)
theorem lr49_29 {w : z_W} (h : z_lay w) : z_R w 49 29 = some 70 := h.2.1 (49, 29, 70) (by decide)
theorem lr49_32 {w : z_W} (h : z_lay w) : z_R w 49 32 = some 71 := h.2.1 (49, 32, 71) (by decide)
theorem lr49_33 {w : z_W} (h : z_lay w) : z_R w 49 33 = some 72 := h.2.1 (49, 33, 72) (by decide)
theorem lr49_34 {w : z_W} (h : z_lay w) : z_R w 49 34 = some 73 := h.2.1 (49, 34, 73) (by decide)
theorem lr49_36 {w : z_W} (h : z_lay w) : z_R w 49 36 = some 74 := h.2.1 (49, 36, 74) (by decide)
theorem lr49_37 {w : z_W} (h : z_lay w) : z_R w 49 37 = some 75 := h.2.1 (49, 37, 75) (by decide)
/-! what changes, by places and by single fields -/
def z_fr (S : List Nat) (F : List (Nat × Int)) (w w' : z_W) : Prop := w'.2 = w.2 ∧ ∀ p k, p ∉ S → (p, k) ∉ F → z_I w' p k = z_I w p k
theorem z_fr_rf {S : List Nat} {F : List (Nat × Int)} {w : z_W} : z_fr S F w w := ⟨rfl, fun _ _ _ _ => rfl⟩
theorem z_fr_tr {S : List Nat} {F : List (Nat × Int)} {w w' w'' : z_W} (h : z_fr S F w w') (h2 : z_fr S F w' w'') : z_fr S F w w'' := ⟨h2.1.trans h.1, fun p k a b => (h2.2 p k a b).trans (h.2 p k a b)⟩
theorem z_fr_mo {S S' : List Nat} {F F' : List (Nat × Int)} {w w' : z_W} (h : z_fr S F w w') (hs : ∀ p ∈ S, p ∈ S') (hf : ∀ q ∈ F, q ∈ F' ∨ q.1 ∈ S') : z_fr S' F' w w' := ⟨h.1, fun p k a b => h.2 p k (fun q => a (hs p q)) (fun q => (hf _ q).elim b a)⟩
theorem z_fr_sI {S : List Nat} {F : List (Nat × Int)} {w w' : z_W} {p : Nat} {k z : Int} (h : z_fr S F w w') (hp : p ∈ S) : z_fr S F w (z_sI w' p k z) := ⟨h.1, fun q j a b => by rw [z_I_sI, if_neg (fun x => a (by rw [x.1]; exact hp))]; exact h.2 q j a b⟩
theorem z_fr_sF {S : List Nat} {F : List (Nat × Int)} {w w' : z_W} {p : Nat} {k z : Int} (h : z_fr S F w w') (hp : (p, k) ∈ F) : z_fr S F w (z_sI w' p k z) := ⟨h.1, fun q j a b => by rw [z_I_sI, if_neg (fun x => b (by rw [x.1, x.2]; exact hp))]; exact h.2 q j a b⟩
theorem z_fr_k {S : List Nat} {F : List (Nat × Int)} {w w' : z_W} (h : z_fr S F w w') (p : Nat) : z_k w' p = z_k w p := by unfold z_k; rw [h.1]
theorem z_fr_len {S : List Nat} {F : List (Nat × Int)} {w w' : z_W} (h : z_fr S F w w') (p : Nat) : z_len w' p = z_len w p := by unfold z_len; rw [h.1]
theorem z_fr_lay {S : List Nat} {F : List (Nat × Int)} {w w' : z_W} (h : z_fr S F w w') (hl : z_lay w) : z_lay w' := z_lay_eq h.1 hl
theorem z_I_at {w : z_W} {p : Nat} {k j z : Int} (h : j = k) : z_I (z_sI w p k z) p j = z := by rw [z_I_sI, if_pos ⟨rfl, h⟩]
theorem z_I_ne {w : z_W} {p q : Nat} {k j z : Int} (h : j ≠ k) : z_I (z_sI w p k z) q j = z_I w q j := by rw [z_I_sI, if_neg (fun x => h x.2)]
theorem z_I_np {w : z_W} {p q : Nat} {k j z : Int} (h : q ≠ p) : z_I (z_sI w p k z) q j = z_I w q j := by rw [z_I_sI, if_neg (fun x => h x.1)]
