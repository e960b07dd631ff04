/-! What the dancing's and searching's methods may write, by their calls too (printed). -/
def yws : List (Nat × List (Nat × Nat)) := [(11, []), (13, []), (14, []), (15, []), (22, [(1, 1)]), (23, [(1, 1)]), (24, [(10, 0), (10, 1)]), (44, []), (61, []), (83, []), (84, [(10, 0)]), (85, []), (86, []), (87, []), (88, []), (89, []), (90, [(10, 0)]), (91, [(9, 1)]), (92, []), (93, []), (94, []), (95, []), (96, []), (97, []), (98, []), (99, []), (100, []), (101, []), (102, []), (103, []), (104, []), (105, [(9, 1)]), (106, []), (107, [(0, 10), (0, 12), (9, 1)]), (108, [(0, 10), (0, 12), (9, 1)]), (109, [(0, 10), (0, 12), (9, 1)]), (110, []), (111, []), (112, []), (113, []), (114, []), (115, []), (116, []), (117, []), (118, []), (119, []), (120, []), (121, []), (122, [(10, 28), (10, 29)]), (123, []), (124, [(10, 0), (10, 28), (10, 29), (10, 30), (10, 31)]), (125, [(10, 0), (10, 28), (10, 29), (10, 30), (10, 31)]), (126, [(0, 10), (0, 12), (9, 1)]), (127, [(0, 10), (0, 12), (9, 1)]), (128, [(10, 0), (10, 28), (10, 29), (10, 30), (10, 31)]), (129, []), (130, [(10, 0)]), (131, [(0, 10)]), (132, [(0, 10)]), (133, []), (134, [(10, 0), (10, 31)]), (135, [(0, 10)]), (136, [(10, 0), (10, 31)]), (137, []), (138, []), (139, []), (140, []), (141, [(10, 0)]), (142, []), (143, []), (144, []), (145, [(10, 0), (10, 28), (10, 29)]), (146, []), (147, []), (148, [(10, 0)]), (149, []), (150, []), (151, []), (152, [(10, 0)]), (153, []), (154, [(3, 6)]), (155, [(3, 6)]), (156, [(10, 0)]), (157, []), (158, []), (159, [(8, 7)]), (160, [(8, 6)]), (161, [(8, 6), (8, 7), (9, 1)]), (162, [(8, 6), (8, 7), (9, 1)]), (163, [(8, 6), (8, 7), (9, 1)]), (164, []), (165, []), (166, [(10, 28), (10, 29)]), (167, [(10, 28), (10, 29)]), (168, [(10, 0), (10, 28), (10, 29), (10, 36)]), (169, []), (170, []), (171, [(10, 0)]), (172, []), (173, [(9, 1)]), (174, [(9, 1)]), (175, []), (176, [(10, 0), (10, 28), (10, 29)])]
def ywsB : Bool := yws.all fun e => !(e.1 == 36) && ((((zKS .null)[e.1]?).getD []).all fun r => zwi r.2.1 r.2.2.1 r.2.2.2.1 e.2 && (!(zki r.2.1 == 2 && r.2.2.1 == 0) || (match yws.lookup r.2.2.2.1 with
  | some l => l.all fun x => e.2.elem x
  | none => false)))
theorem ywsB_ok : ywsB = true := by decide +kernel
theorem yws_closed (v0 : Value) : zclosed (zcd (zt v0)) yws := by
  intro mi l hl pc q hq
  have h1 := List.all_eq_true.mp ywsB_ok _ (zlook hl)
  simp only [Bool.and_eq_true, Bool.not_eq_true', beq_eq_false_iff_ne] at h1
  have hq' : (((zKS v0)[mi]?).getD []).lookup pc = some q := hq
  rw [zks_set, List.getElem?_set_ne (fun h => h1.1 h.symm)] at hq'
  have h2 := List.all_eq_true.mp h1.2 _ (zlook hq')
  simp only [Bool.and_eq_true] at h2
  refine ⟨h2.1, fun k1 k2 => ?_⟩
  have h3 := h2.2
  simp only [k1, k2, BEq.rfl, Bool.and_self, Bool.not_true, Bool.false_or] at h3
  split at h3
  · rename_i l' hl'
    exact ⟨l', hl', fun e he => List.elem_iff.mp (List.all_eq_true.mp h3 e he)⟩
  · cases h3
def ykp (m ci f : Nat) : Bool := match yws.lookup m with
  | some l => !(l.elem (ci, f))
  | none => false
theorem ykp_spec (v0 : Value) {G : List zE} (m ci f : Nat) (h : ykp m ci f = true) (n : Nat) (lv : zL) (X : zX) (r : zO × zX) (hz : zev (zcd (zt v0)) (znl (zt v0)) (zdf (zt v0)) (zhn (zt v0)) G n m 0 lv [] X = some r) (k : Nat) (fs : List Value) (hk : X.1[k]? = some (.inl (ci, fs))) : ∃ fs', r.2.1[k]? = some (.inl (ci, fs')) ∧ fs'[f]? = fs[f]? := by
  unfold ykp at h
  split at h
  · rename_i l hl
    obtain ⟨fs', h1, h2⟩ := zev_keep (yws_closed v0) n m 0 l lv [] X r hl hz k ci fs hk
    exact ⟨fs', h1, h2 f fun he => absurd he (by simpa using h)⟩
  · cases h
