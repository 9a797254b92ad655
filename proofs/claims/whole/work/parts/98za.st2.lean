/-! the cells that the law makes: where each lies, and what it holds at the start -/
def st_of : List (Nat × Nat) := [(0, 0), (1, 1), (2, 12), (3, 17), (4, 20), (5, 29), (6, 40), (7, 44), (8, 46), (9, 49), (10, 59), (16, 2), (33, 13), (34, 14), (35, 15), (36, 16), (48, 18), (51, 19), (64, 21), (65, 26), (67, 27), (68, 28), (82, 30), (83, 31), (84, 32), (85, 39), (98, 41), (99, 42), (100, 43), (114, 45), (128, 47), (130, 48), (144, 50), (145, 51), (146, 52), (160, 60), (161, 61), (162, 62), (163, 63), (167, 64), (169, 65), (170, 66), (171, 67), (172, 68), (173, 69), (176, 70), (177, 71), (183, 72), (184, 73), (185, 74), (193, 75), (194, 76), (199, 77), (200, 78), (201, 79), (204, 80), (206, 81), (207, 82), (211, 83), (212, 84), (213, 85), (214, 86), (316, 3), (364, 22), (384, 33), (446, 53)]
def st_o (k : Nat) : Nat := (st_of.lookup k).getD 0
def st_os : List Nat := [0, 1, 12, 17, 20, 29, 40, 44, 46, 49, 59, 2, 3, 4, 5, 6, 7, 8, 9, 10, 11, 13, 14, 15, 16, 18, 19, 21, 22, 23, 24, 25, 26, 27, 28, 30, 31, 32, 33, 34, 35, 36, 37, 38, 39, 41, 42, 43, 45, 47, 48, 50, 51, 52, 53, 54, 55, 56, 57, 58, 60, 61, 62, 63, 64, 65, 66, 67, 68, 69, 70, 71, 72, 73, 74, 75, 76, 77, 78, 79, 80, 81, 82, 83, 84, 85, 86]
def st_inv : List Nat := [0, 1, 11, 12, 13, 14, 15, 16, 17, 18, 19, 20, 2, 21, 22, 23, 24, 3, 25, 26, 4, 27, 28, 29, 30, 31, 32, 33, 34, 5, 35, 36, 37, 38, 39, 40, 41, 42, 43, 44, 6, 45, 46, 47, 7, 48, 8, 49, 50, 9, 51, 52, 53, 54, 55, 56, 57, 58, 59, 10, 60, 61, 62, 63, 64, 65, 66, 67, 68, 69, 70, 71, 72, 73, 74, 75, 76, 77, 78, 79, 80, 81, 82, 83, 84, 85, 86]
theorem st_os_eq : am_pr.map (fun x => st_o x.1.1 + x.2) = st_os := by decide +kernel
theorem st_low : ∀ x ∈ am_pr, x.1.1 < 900 := by decide +kernel
theorem st_len : st_os.length = 87 := by decide +kernel
theorem st_inv_ok : ∀ i, i < 87 → (st_os[i]?).bind (fun v => st_inv[v]?) = some i := by decide +kernel
def st_h : Nat → Int32 := upd (upd (upd (upd (upd (upd (fun _ => 0) 0 (-1)) 1 (-1)) 2 (-1)) 3 (-1)) 4 (-1)) 5 (-1)
def st_m : am_M := (fun k _ => if k = 144 then st_h else if k = 211 then st_h else if k = 10 then (fun i => if i = 29 then 100 else 0) else (fun _ => 0), fun _ _ _ => 0)
def st_ad (z : Nat) (st : Nat → Nat) (k r : Nat) : Nat := if k < 900 then z + st_o k + r else st (k - 900)
abbrev st_G (D : va_G) (cT : Nat → ClassId) (z : Nat) (st : Nat → Nat) (b L : Nat) (xs : Nat → Int32) : am_G := (D, (st_ad z st, (cT, (bA z, (b, (L, xs))))))
def st_b (z : Nat) (cT : Nat → ClassId) : List va_E := [.inr (9, [.ref (z + 1), .ref (z + 12), .ref (z + 17), .ref (z + 20), .ref (z + 29), .ref (z + 40), .ref (z + 44), .ref (z + 46), .ref (z + 49)]), .inr (5, [.ref (z + 2), .int 0, .int 0]), be_q cT 3 9 (z + 3), be_i cT 6, be_i cT 6, be_i cT 6, be_i cT 6, be_i cT 6, be_i cT 6, be_i cT 6, be_i cT 6, be_i cT 6, .inr (1, [.ref (z + 1), .ref (z + 13), .ref (z + 14), .ref (z + 15), .ref (z + 16), .int 0, .int 0]), be_i cT 40, be_i cT 40, be_i cT 40, be_i cT 40, .inr (6, [.ref (z + 18), .int 0, .int 0, .ref (z + 19), .int 0]), be_i cT 120, be_i cT 121, .inr (8, [.ref (z + 21), .ref (z + 26), .int 0, .ref (z + 27), .ref (z + 28), .int 0]), be_q cT 3 4 (z + 22), be_i cT 121, be_i cT 121, be_i cT 121, be_i cT 121, be_i cT 4, be_i cT 128, be_i cT 121, .inr (7, [.ref (z + 1), .ref (z + 20), .ref (z + 30), .ref (z + 31), .ref (z + 32), .ref (z + 39), .int 0, .int 0, .int 0, .int 0, .int 0, .int 0, .int 0]), be_i cT 6, be_i cT 6, be_q cT 3 6 (z + 33), be_i cT 4, be_i cT 4, be_i cT 4, be_i cT 4, be_i cT 4, be_i cT 4, be_i cT 7, .inr (2, [.ref (z + 1), .ref (z + 29), .ref (z + 41), .ref (z + 42), .ref (z + 43), .int 0, .int 0, .int 0]), be_i cT 6, be_i cT 5, be_i cT 6, .inr (0, [.ref (z + 1), .ref (z + 29), .ref (z + 45), .int 0, .int 0]), be_i cT 259, .inr (3, [.ref (z + 47), .int 0, .ref (z + 48), .int 0, .int 0, .int 0]), be_i cT 50, be_i cT 24, .inr (4, [.ref (z + 50), .ref (z + 51), .ref (z + 52)]), .inl (cT 1, (6, .inl (st_h))), be_i cT 6, be_q cT 4 6 (z + 53), be_l cT 60, be_l cT 60, be_l cT 60, be_l cT 60, be_l cT 60, be_l cT 60, .inr (10, [.ref (z + 60), .ref (z + 61), .ref (z + 62), .ref (z + 63), .int 0, .int 0, .int 0, .ref (z + 64), .int 0, .ref (z + 65), .ref (z + 66), .ref (z + 67), .ref (z + 68), .ref (z + 69), .int 0, .int 0, .ref (z + 70), .ref (z + 71), .int 0, .int 0, .int 0, .int 0, .int 0, .ref (z + 72), .ref (z + 73), .ref (z + 74), .int 0, .int 0, .int 0, .int 100, .int 0, .int 0, .int 0, .ref (z + 75), .ref (z + 76), .int 0, .int 0, .int 0, .int 0, .ref (z + 77), .ref (z + 78), .ref (z + 79), .int 0, .int 0, .ref (z + 80), .int 0, .ref (z + 81), .ref (z + 82), .int 0, .int 0, .int 0, .ref (z + 83), .ref (z + 84), .ref (z + 85), .ref (z + 86)]), be_i cT 28, be_i cT 40, be_i cT 40, be_i cT 40, be_i cT 6, be_i cT 5, be_i cT 5, be_i cT 5, be_i cT 5, be_i cT 120, be_i cT 480, be_i cT 4, be_i cT 7, be_i cT 24, be_i cT 6, be_i cT 6, be_i cT 30, be_i cT 6, be_i cT 6, be_i cT 6, be_i cT 1783, be_i cT 50, be_i cT 24, .inl (cT 1, (6, .inl (st_h))), be_i cT 6, be_l cT 360, be_l cT 60]
theorem st_adl {z : Nat} {st : Nat → Nat} {k r : Nat} (h : k < 900) : st_ad z st k r = z + (st_o k + r) := (if_pos h).trans (Nat.add_assoc _ _ _)
theorem st_pr {i : Nat} {x : am_Q × Nat} (h : am_pr[i]? = some x) : i < 87 ∧ st_os[i]? = some (st_o x.1.1 + x.2) := by
  have e : st_os[i]? = some (st_o x.1.1 + x.2) := by
    rw [← st_os_eq, List.getElem?_map, h]
    rfl
  refine ⟨?_, e⟩
  have := (List.getElem?_eq_some_iff.mp e).1
  rw [st_len] at this
  exact this
theorem st_ok (D : va_G) (cT : Nat → ClassId) (z : Nat) (st : Nat → Nat) (b L : Nat) (xs : Nat → Int32) : am_ok (st_G D cT z st b L xs) := by
  have low : ∀ {i : Nat} {x : am_Q × Nat}, am_pr[i]? = some x → st_ad z st x.1.1 x.2 = z + (st_o x.1.1 + x.2) := fun h => st_adl (st_low _ (List.mem_of_getElem? h))
  refine ⟨fun i j x y hx hy e => ?_, fun i x hx => ?_⟩
  · have e : st_ad z st x.1.1 x.2 = st_ad z st y.1.1 y.2 := e
    rw [low hx, low hy] at e
    have e2 : st_o x.1.1 + x.2 = st_o y.1.1 + y.2 := Nat.add_left_cancel e
    obtain ⟨hi, h1⟩ := st_pr hx
    obtain ⟨hj, h2⟩ := st_pr hy
    have g1 := st_inv_ok i hi
    have g2 := st_inv_ok j hj
    rw [h1, e2, ← h2, g2] at g1
    exact (Option.some.inj g1).symm
  · show z ≤ st_ad z st x.1.1 x.2
    rw [low hx]
    omega
def st_p : List (am_Q × Nat) := [((0, 0, 9, 1, [some 1, some 2, some 3, some 4, some 5, some 6, some 7, some 8, some 9]), 0), ((1, 0, 5, 1, [some 16, none, none]), 0), ((2, 0, 1, 1, [some 1, some 33, some 34, some 35, some 36, none, none]), 0), ((3, 0, 6, 1, [some 48, none, none, some 51, none]), 0), ((4, 0, 8, 1, [some 64, some 65, none, some 67, some 68, none]), 0), ((5, 0, 7, 1, [some 1, some 4, some 82, some 83, some 84, some 85, none, none, none, none, none, none, none]), 0), ((6, 0, 2, 1, [some 1, some 5, some 98, some 99, some 100, none, none, none]), 0), ((7, 0, 0, 1, [some 1, some 5, some 114, none, none]), 0), ((8, 0, 3, 1, [some 128, none, some 130, none, none, none]), 0), ((9, 0, 4, 1, [some 144, some 145, some 146]), 0), ((10, 0, 10, 1, [some 160, some 161, some 162, some 163, none, none, none, some 167, none, some 169, some 170, some 171, some 172, some 173, none, none, some 176, some 177, none, none, none, none, none, some 183, some 184, some 185, none, none, none, none, none, none, none, some 193, some 194, none, none, none, none, some 199, some 200, some 201, none, none, some 204, none, some 206, some 207, none, none, none, some 211, some 212, some 213, some 214]), 0), ((16, 3, 9, 1, [some 316]), 0), ((316, 1, 6, 9, []), 0), ((316, 1, 6, 9, []), 1), ((316, 1, 6, 9, []), 2), ((316, 1, 6, 9, []), 3), ((316, 1, 6, 9, []), 4), ((316, 1, 6, 9, []), 5), ((316, 1, 6, 9, []), 6), ((316, 1, 6, 9, []), 7), ((316, 1, 6, 9, []), 8), ((33, 1, 40, 1, []), 0), ((34, 1, 40, 1, []), 0), ((35, 1, 40, 1, []), 0), ((36, 1, 40, 1, []), 0), ((48, 1, 120, 1, []), 0), ((51, 1, 121, 1, []), 0), ((64, 3, 4, 1, [some 364]), 0), ((364, 1, 121, 4, []), 0), ((364, 1, 121, 4, []), 1), ((364, 1, 121, 4, []), 2), ((364, 1, 121, 4, []), 3), ((65, 1, 4, 1, []), 0), ((67, 1, 128, 1, []), 0), ((68, 1, 121, 1, []), 0), ((82, 1, 6, 1, []), 0), ((83, 1, 6, 1, []), 0), ((84, 3, 6, 1, [some 384]), 0), ((384, 1, 4, 6, []), 0), ((384, 1, 4, 6, []), 1), ((384, 1, 4, 6, []), 2), ((384, 1, 4, 6, []), 3), ((384, 1, 4, 6, []), 4), ((384, 1, 4, 6, []), 5), ((85, 1, 7, 1, []), 0), ((98, 1, 6, 1, []), 0), ((99, 1, 5, 1, []), 0), ((100, 1, 6, 1, []), 0), ((114, 1, 259, 1, []), 0), ((128, 1, 50, 1, []), 0), ((130, 1, 24, 1, []), 0), ((144, 1, 6, 1, []), 0), ((145, 1, 6, 1, []), 0), ((146, 4, 6, 1, [some 446]), 0), ((446, 2, 60, 6, []), 0), ((446, 2, 60, 6, []), 1), ((446, 2, 60, 6, []), 2), ((446, 2, 60, 6, []), 3), ((446, 2, 60, 6, []), 4), ((446, 2, 60, 6, []), 5), ((160, 1, 28, 1, []), 0), ((161, 1, 40, 1, []), 0), ((162, 1, 40, 1, []), 0), ((163, 1, 40, 1, []), 0), ((167, 1, 6, 1, []), 0), ((169, 1, 5, 1, []), 0), ((170, 1, 5, 1, []), 0), ((171, 1, 5, 1, []), 0), ((172, 1, 5, 1, []), 0), ((173, 1, 120, 1, []), 0), ((176, 1, 480, 1, []), 0), ((177, 1, 4, 1, []), 0), ((183, 1, 7, 1, []), 0), ((184, 1, 24, 1, []), 0), ((185, 1, 6, 1, []), 0), ((193, 1, 6, 1, []), 0), ((194, 1, 30, 1, []), 0), ((199, 1, 6, 1, []), 0), ((200, 1, 6, 1, []), 0), ((201, 1, 6, 1, []), 0), ((204, 1, 1783, 1, []), 0), ((206, 1, 50, 1, []), 0), ((207, 1, 24, 1, []), 0), ((211, 1, 6, 1, []), 0), ((212, 1, 6, 1, []), 0), ((213, 2, 360, 1, []), 0), ((214, 2, 60, 1, []), 0)]
theorem st_p_eq : am_pr = st_p := by rfl
set_option maxHeartbeats 4000000 in
set_option maxRecDepth 100000 in
theorem st_W {D : va_G} {cT : Nat → ClassId} {z : Nat} {st : Nat → Nat} {b L : Nat} {xs : Nat → Int32} {H : Heap} (hH : bH D z (st_b z cT) H) : am_W (st_G D cT z st b L xs) st_m H := by
  intro k q hq
  obtain ⟨x, hx, rfl⟩ := am_wof hq
  rw [st_p_eq] at hx
  have hk : k < 87 := (List.getElem?_eq_some_iff.mp hx).1
  match k, hx with
  | 0, hx => cases hx; exact hH.2 0 _ rfl
  | 1, hx => cases hx; exact hH.2 1 _ rfl
  | 2, hx => cases hx; exact hH.2 12 _ rfl
  | 3, hx => cases hx; exact hH.2 17 _ rfl
  | 4, hx => cases hx; exact hH.2 20 _ rfl
  | 5, hx => cases hx; exact hH.2 29 _ rfl
  | 6, hx => cases hx; exact hH.2 40 _ rfl
  | 7, hx => cases hx; exact hH.2 44 _ rfl
  | 8, hx => cases hx; exact hH.2 46 _ rfl
  | 9, hx => cases hx; exact hH.2 49 _ rfl
  | 10, hx => cases hx; exact hH.2 59 _ rfl
  | 11, hx => cases hx; exact hH.2 2 _ rfl
  | 12, hx => cases hx; exact hH.2 3 _ rfl
  | 13, hx => cases hx; exact hH.2 4 _ rfl
  | 14, hx => cases hx; exact hH.2 5 _ rfl
  | 15, hx => cases hx; exact hH.2 6 _ rfl
  | 16, hx => cases hx; exact hH.2 7 _ rfl
  | 17, hx => cases hx; exact hH.2 8 _ rfl
  | 18, hx => cases hx; exact hH.2 9 _ rfl
  | 19, hx => cases hx; exact hH.2 10 _ rfl
  | 20, hx => cases hx; exact hH.2 11 _ rfl
  | 21, hx => cases hx; exact hH.2 13 _ rfl
  | 22, hx => cases hx; exact hH.2 14 _ rfl
  | 23, hx => cases hx; exact hH.2 15 _ rfl
  | 24, hx => cases hx; exact hH.2 16 _ rfl
  | 25, hx => cases hx; exact hH.2 18 _ rfl
  | 26, hx => cases hx; exact hH.2 19 _ rfl
  | 27, hx => cases hx; exact hH.2 21 _ rfl
  | 28, hx => cases hx; exact hH.2 22 _ rfl
  | 29, hx => cases hx; exact hH.2 23 _ rfl
  | 30, hx => cases hx; exact hH.2 24 _ rfl
  | 31, hx => cases hx; exact hH.2 25 _ rfl
  | 32, hx => cases hx; exact hH.2 26 _ rfl
  | 33, hx => cases hx; exact hH.2 27 _ rfl
  | 34, hx => cases hx; exact hH.2 28 _ rfl
  | 35, hx => cases hx; exact hH.2 30 _ rfl
  | 36, hx => cases hx; exact hH.2 31 _ rfl
  | 37, hx => cases hx; exact hH.2 32 _ rfl
  | 38, hx => cases hx; exact hH.2 33 _ rfl
  | 39, hx => cases hx; exact hH.2 34 _ rfl
  | 40, hx => cases hx; exact hH.2 35 _ rfl
  | 41, hx => cases hx; exact hH.2 36 _ rfl
  | 42, hx => cases hx; exact hH.2 37 _ rfl
  | 43, hx => cases hx; exact hH.2 38 _ rfl
  | 44, hx => cases hx; exact hH.2 39 _ rfl
  | 45, hx => cases hx; exact hH.2 41 _ rfl
  | 46, hx => cases hx; exact hH.2 42 _ rfl
  | 47, hx => cases hx; exact hH.2 43 _ rfl
  | 48, hx => cases hx; exact hH.2 45 _ rfl
  | 49, hx => cases hx; exact hH.2 47 _ rfl
  | 50, hx => cases hx; exact hH.2 48 _ rfl
  | 51, hx => cases hx; exact hH.2 50 _ rfl
  | 52, hx => cases hx; exact hH.2 51 _ rfl
  | 53, hx => cases hx; exact hH.2 52 _ rfl
  | 54, hx => cases hx; exact hH.2 53 _ rfl
  | 55, hx => cases hx; exact hH.2 54 _ rfl
  | 56, hx => cases hx; exact hH.2 55 _ rfl
  | 57, hx => cases hx; exact hH.2 56 _ rfl
  | 58, hx => cases hx; exact hH.2 57 _ rfl
  | 59, hx => cases hx; exact hH.2 58 _ rfl
  | 60, hx => cases hx; exact hH.2 60 _ rfl
  | 61, hx => cases hx; exact hH.2 61 _ rfl
  | 62, hx => cases hx; exact hH.2 62 _ rfl
  | 63, hx => cases hx; exact hH.2 63 _ rfl
  | 64, hx => cases hx; exact hH.2 64 _ rfl
  | 65, hx => cases hx; exact hH.2 65 _ rfl
  | 66, hx => cases hx; exact hH.2 66 _ rfl
  | 67, hx => cases hx; exact hH.2 67 _ rfl
  | 68, hx => cases hx; exact hH.2 68 _ rfl
  | 69, hx => cases hx; exact hH.2 69 _ rfl
  | 70, hx => cases hx; exact hH.2 70 _ rfl
  | 71, hx => cases hx; exact hH.2 71 _ rfl
  | 72, hx => cases hx; exact hH.2 72 _ rfl
  | 73, hx => cases hx; exact hH.2 73 _ rfl
  | 74, hx => cases hx; exact hH.2 74 _ rfl
  | 75, hx => cases hx; exact hH.2 75 _ rfl
  | 76, hx => cases hx; exact hH.2 76 _ rfl
  | 77, hx => cases hx; exact hH.2 77 _ rfl
  | 78, hx => cases hx; exact hH.2 78 _ rfl
  | 79, hx => cases hx; exact hH.2 79 _ rfl
  | 80, hx => cases hx; exact hH.2 80 _ rfl
  | 81, hx => cases hx; exact hH.2 81 _ rfl
  | 82, hx => cases hx; exact hH.2 82 _ rfl
  | 83, hx => cases hx; exact hH.2 83 _ rfl
  | 84, hx => cases hx; exact hH.2 84 _ rfl
  | 85, hx => cases hx; exact hH.2 85 _ rfl
  | 86, hx => cases hx; exact hH.2 86 _ rfl
  | n + 87, hx => exact absurd hk (by omega)
