section SOD
theorem sn_elim {motive : SX → SY → Prop} (h : ∀ (cap hc dep n sb bl bp i c d : Nat) (st K : Nat → Nat) (V : Nat → Int32) (S oa ca sg dp pa : Nat → Nat) (f_length f_caret f_selStart f_merge f_itemCount f_activeStop f_selected f_draftCount f_depth f_readAt y_session y_selected y_nItems y_finalIdx y_fromStruct y_rlen y_tlen y_svF y_svL : Int32) (a_text a_body a_history a_itemKind a_itemValue a_openAt a_closeAt a_base a_typedLength a_typedText a_draftKind a_draftValue a_draftOpenAt a_draftCloseAt a_enclosing a_trialLength b_sBody b_typed b_tLen b_kind b_val b_stopOf b_par b_ipos b_prim b_stack b_occ b_rbuf b_tbuf b_svT b_hist : Nat → Int32), sn_RF cap hc dep n sb bl bp i c d st K V S oa ca sg dp pa f_length f_caret f_activeStop f_selected y_session y_selected f_itemCount y_nItems y_finalIdx a_typedLength b_typed b_tLen b_sBody a_itemKind a_itemValue a_openAt a_closeAt b_kind b_val b_stopOf b_par b_prim a_history b_hist → motive (nI cap, nI hc, f_length, f_caret, f_selStart, nI n, nI dep, f_merge, f_itemCount, nI bl, nI bp, f_activeStop, f_selected, f_draftCount, f_depth, f_readAt, a_text, a_body, a_history, a_itemKind, a_itemValue, a_openAt, a_closeAt, a_base, a_typedLength, a_typedText, a_draftKind, a_draftValue, a_draftOpenAt, a_draftCloseAt, a_enclosing, a_trialLength) (nI cap, nI hc, f_length, f_caret, f_selStart, nI n, nI sb, f_merge, y_session, y_selected, f_activeStop, y_nItems, y_finalIdx, y_fromStruct, nI bl, nI bp, y_rlen, y_tlen, 0, y_svF, y_svL, nI dep, a_text, a_body, b_sBody, b_typed, b_tLen, a_typedText, b_kind, b_val, b_stopOf, b_par, b_ipos, b_prim, b_stack, b_occ, a_base, b_rbuf, b_tbuf, b_svT, b_hist)) {k : Nat} {u : SX} {v : SY} (I : i_Rel k u v) : motive u v := by
  obtain ⟨cap, hc, dep, n, sb, bl, bp, i, c, d, st, K, V, S, oa, ca, sg, dp, pa, f_length, f_caret, f_selStart, f_merge, f_itemCount, f_activeStop, f_selected, f_draftCount, f_depth, f_readAt, y_session, y_selected, y_nItems, y_finalIdx, y_fromStruct, y_rlen, y_tlen, y_svF, y_svL, a_text, a_body, a_history, a_itemKind, a_itemValue, a_openAt, a_closeAt, a_base, a_typedLength, a_typedText, a_draftKind, a_draftValue, a_draftOpenAt, a_draftCloseAt, a_enclosing, a_trialLength, b_sBody, b_typed, b_tLen, b_kind, b_val, b_stopOf, b_par, b_ipos, b_prim, b_stack, b_occ, b_rbuf, b_tbuf, b_svT, b_hist, rfl, rfl, R⟩ := I
  exact h cap hc dep n sb bl bp i c d st K V S oa ca sg dp pa f_length f_caret f_selStart f_merge f_itemCount f_activeStop f_selected f_draftCount f_depth f_readAt y_session y_selected y_nItems y_finalIdx y_fromStruct y_rlen y_tlen y_svF y_svL a_text a_body a_history a_itemKind a_itemValue a_openAt a_closeAt a_base a_typedLength a_typedText a_draftKind a_draftValue a_draftOpenAt a_draftCloseAt a_enclosing a_trialLength b_sBody b_typed b_tLen b_kind b_val b_stopOf b_par b_ipos b_prim b_stack b_occ b_rbuf b_tbuf b_svT b_hist R
end SOD
section SOE
/-! Y: to the next and the previous stop -/
variable {K S oa ca sg dp pa st : Nat → Nat} {V L : Nat → Int32} {c : Nat}
variable {f_cap f_hcap f_len f_caret f_sel f_bodyLen f_sBodyLen f_merge f_session f_selected f_active f_nItems f_finalIdx f_fromStruct f_baseLen f_baseP f_rlen f_tlen f_clearAll f_svF f_svL f_hCount : Int32} {a_buf a_body a_sBody a_typed a_tLen a_tText a_kind a_val a_stopOf a_par a_ipos a_prim a_stack a_occ a_base a_rbuf a_tbuf a_svT a_hist : Nat → Int32}
variable {post : Int32 → SY → Prop}
theorem sn_ynA (P : sn_PI c 0 st K V S oa ca sg dp pa) (hc : c ≤ 65) (Y : sn_YS c K V S oa sg pa f_nItems f_finalIdx a_kind a_val a_stopOf a_par a_prim) (T : sn_YT f_clearAll a_typed a_tLen L) (bp a : Nat) (h9 : a ≤ 9) (al : sn_AL oa ca L a)
    (h : ∀ rl rb tb tl ip, post 0 (f_cap, f_hcap, f_len, nI (bp + (sn_rr K V S oa ca L a_tText (ca a)).length), nI (bp + (sn_rr K V S oa ca L a_tText (oa a)).length), f_bodyLen, f_sBodyLen, f_merge, f_session, 1, nI a, f_nItems, f_finalIdx, f_fromStruct, f_baseLen, nI bp, rl, tl, f_clearAll, f_svF, f_svL, f_hCount, a_buf, a_body, a_sBody, a_typed, a_tLen, a_tText, a_kind, a_val, a_stopOf, a_par, ip, a_prim, a_stack, a_occ, a_base, rb, tb, a_svT, a_hist)) :
    ∀ m x n, x + m = a → 1 ≤ x → m < n → (∀ t, x ≤ t → t < a → ¬ sn_AL oa ca L t) → wY_next_21 post f_cap f_hcap f_len f_caret f_sel f_bodyLen f_sBodyLen f_merge f_session f_selected f_active f_nItems f_finalIdx f_fromStruct f_baseLen (nI bp) f_rlen f_tlen f_clearAll f_svF f_svL f_hCount a_buf a_body a_sBody a_typed a_tLen a_tText a_kind a_val a_stopOf a_par a_ipos a_prim a_stack a_occ a_base a_rbuf a_tbuf a_svT a_hist n (nI x) := by
  intro m
  induction m with
  | zero =>
    intro x n hi h1 hn ht
    obtain ⟨n, rfl⟩ : ∃ k, n = k + 1 := ⟨n - 1, by omega⟩
    obtain rfl : x = a := by omega
    refine br_f (fun y => absurd ((nI_ltI (a := 9) (b := x) (by omega) (by omega)).mp y) (by omega)) ?_
    refine sn_yalv P hc Y T x rfl h1 h9 (fun _ => br_f (by decide) ?_) (fun z => absurd al z)
    exact sn_ysel P hc Y T bp x rfl h1 h9 al h
  | succ m ih =>
    intro x n hi h1 hn ht
    obtain ⟨n, rfl⟩ : ∃ k, n = k + 1 := ⟨n - 1, by omega⟩
    refine br_f (fun y => absurd ((nI_ltI (a := 9) (b := x) (by omega) (by omega)).mp y) (by omega)) ?_
    refine sn_yalv P hc Y T x rfl h1 (by omega) (fun z => absurd z (ht x (Nat.le_refl _) (by omega))) (fun _ => br_t rfl (fun y ey => ?_))
    rw [ey, nI_1]
    exact ih (x + 1) n (by omega) (by omega) (by omega) (fun t h2 h3 => ht t (by omega) h3)
theorem sn_ynN (P : sn_PI c 0 st K V S oa ca sg dp pa) (hc : c ≤ 65) (h00 : oa 0 < c) (Y : sn_YS c K V S oa sg pa f_nItems f_finalIdx a_kind a_val a_stopOf a_par a_prim) (T : sn_YT f_clearAll a_typed a_tLen L) (bp : Nat)
    (h : ∀ rl rb tb tl ip, post 0 (f_cap, f_hcap, f_len, nI (bp + (sn_rr K V S oa ca L a_tText (oa 0)).length), nI (bp + (sn_rr K V S oa ca L a_tText (oa 0)).length), f_bodyLen, f_sBodyLen, f_merge, 0, 0, (-1), f_nItems, f_finalIdx, f_fromStruct, f_baseLen, nI bp, rl, tl, f_clearAll, f_svF, f_svL, f_hCount, a_buf, a_body, a_sBody, a_typed, a_tLen, a_tText, a_kind, a_val, a_stopOf, a_par, ip, a_prim, a_stack, a_occ, a_base, rb, tb, a_svT, a_hist)) :
    ∀ m x n, x + m = 10 → 1 ≤ x → m < n → (∀ t, x ≤ t → t ≤ 9 → ¬ sn_AL oa ca L t) → wY_next_21 post f_cap f_hcap f_len f_caret f_sel f_bodyLen f_sBodyLen f_merge f_session f_selected f_active f_nItems f_finalIdx f_fromStruct f_baseLen (nI bp) f_rlen f_tlen f_clearAll f_svF f_svL f_hCount a_buf a_body a_sBody a_typed a_tLen a_tText a_kind a_val a_stopOf a_par a_ipos a_prim a_stack a_occ a_base a_rbuf a_tbuf a_svT a_hist n (nI x) := by
  intro m
  induction m with
  | zero =>
    intro x n hi h1 hn ht
    obtain ⟨n, rfl⟩ : ∃ k, n = k + 1 := ⟨n - 1, by omega⟩
    obtain rfl : x = 10 := by omega
    refine br_t (by decide) ?_
    exact sn_yfp P hc Y T bp h00 (fun rl rb tb tl ip => h rl rb tb tl ip)
  | succ m ih =>
    intro x n hi h1 hn ht
    obtain ⟨n, rfl⟩ : ∃ k, n = k + 1 := ⟨n - 1, by omega⟩
    refine br_f (fun y => absurd ((nI_ltI (a := 9) (b := x) (by omega) (by omega)).mp y) (by omega)) ?_
    refine sn_yalv P hc Y T x rfl h1 (by omega) (fun z => absurd z (ht x (Nat.le_refl _) (by omega))) (fun _ => br_t rfl (fun y ey => ?_))
    rw [ey, nI_1]
    exact ih (x + 1) n (by omega) (by omega) (by omega) (fun t h2 h3 => ht t (by omega) h3)
theorem sn_ypA (P : sn_PI c 0 st K V S oa ca sg dp pa) (hc : c ≤ 65) (Y : sn_YS c K V S oa sg pa f_nItems f_finalIdx a_kind a_val a_stopOf a_par a_prim) (T : sn_YT f_clearAll a_typed a_tLen L) (bp a : Nat) (h1 : 1 ≤ a) (al : sn_AL oa ca L a)
    (h : ∀ rl rb tb tl ip, post 0 (f_cap, f_hcap, f_len, nI (bp + (sn_rr K V S oa ca L a_tText (ca a)).length), nI (bp + (sn_rr K V S oa ca L a_tText (oa a)).length), f_bodyLen, f_sBodyLen, 0, f_session, 1, nI a, f_nItems, f_finalIdx, f_fromStruct, f_baseLen, nI bp, rl, tl, f_clearAll, f_svF, f_svL, f_hCount, a_buf, a_body, a_sBody, a_typed, a_tLen, a_tText, a_kind, a_val, a_stopOf, a_par, ip, a_prim, a_stack, a_occ, a_base, rb, tb, a_svT, a_hist)) :
    ∀ m x n, a + m = x → x ≤ 9 → m < n → (∀ t, a < t → t ≤ x → ¬ sn_AL oa ca L t) → wY_prev_16 post f_cap f_hcap f_len f_caret f_sel f_bodyLen f_sBodyLen f_merge f_session f_selected f_active f_nItems f_finalIdx f_fromStruct f_baseLen (nI bp) f_rlen f_tlen f_clearAll f_svF f_svL f_hCount a_buf a_body a_sBody a_typed a_tLen a_tText a_kind a_val a_stopOf a_par a_ipos a_prim a_stack a_occ a_base a_rbuf a_tbuf a_svT a_hist n (nI x) := by
  intro m
  induction m with
  | zero =>
    intro x n hi h9 hn ht
    obtain ⟨n, rfl⟩ : ∃ k, n = k + 1 := ⟨n - 1, by omega⟩
    obtain rfl : x = a := by omega
    refine br_f (fun y => absurd ((nI_ltI (a := x) (b := 1) (by omega) (by omega)).mp y) (by omega)) ?_
    refine sn_yalv P hc Y T x rfl h1 h9 (fun _ => br_f (by decide) ?_) (fun z => absurd al z)
    exact sn_ysel P hc Y T bp x rfl h1 h9 al h
  | succ m ih =>
    intro x n hi h9 hn ht
    obtain ⟨n, rfl⟩ : ∃ k, n = k + 1 := ⟨n - 1, by omega⟩
    obtain ⟨x, rfl⟩ : ∃ j, x = j + 1 := ⟨x - 1, by omega⟩
    refine br_f (fun y => absurd ((nI_ltI (a := x + 1) (b := 1) (by omega) (by omega)).mp y) (by omega)) ?_
    refine sn_yalv P hc Y T (x + 1) rfl (by omega) (by omega) (fun z => absurd z (ht (x + 1) (by omega) (Nat.le_refl _))) (fun _ => br_t rfl (fun y ey => ?_))
    rw [ey, pk_m1]
    exact ih x n (by omega) (by omega) (by omega) (fun t h2 h3 => ht t h2 (by omega))
theorem sn_ypN (P : sn_PI c 0 st K V S oa ca sg dp pa) (hc : c ≤ 65) (Y : sn_YS c K V S oa sg pa f_nItems f_finalIdx a_kind a_val a_stopOf a_par a_prim) (T : sn_YT f_clearAll a_typed a_tLen L) (h : post (-7) (f_cap, f_hcap, f_len, f_caret, f_sel, f_bodyLen, f_sBodyLen, f_merge, f_session, f_selected, f_active, f_nItems, f_finalIdx, f_fromStruct, f_baseLen, f_baseP, f_rlen, f_tlen, f_clearAll, f_svF, f_svL, f_hCount, a_buf, a_body, a_sBody, a_typed, a_tLen, a_tText, a_kind, a_val, a_stopOf, a_par, a_ipos, a_prim, a_stack, a_occ, a_base, a_rbuf, a_tbuf, a_svT, a_hist)) :
    ∀ x n, x ≤ 9 → x < n → (∀ t, 1 ≤ t → t ≤ x → ¬ sn_AL oa ca L t) → wY_prev_16 post f_cap f_hcap f_len f_caret f_sel f_bodyLen f_sBodyLen f_merge f_session f_selected f_active f_nItems f_finalIdx f_fromStruct f_baseLen f_baseP f_rlen f_tlen f_clearAll f_svF f_svL f_hCount a_buf a_body a_sBody a_typed a_tLen a_tText a_kind a_val a_stopOf a_par a_ipos a_prim a_stack a_occ a_base a_rbuf a_tbuf a_svT a_hist n (nI x) := by
  intro x
  induction x with
  | zero =>
    intro n h9 hn ht
    obtain ⟨n, rfl⟩ : ∃ k, n = k + 1 := ⟨n - 1, by omega⟩
    exact br_t (by decide) h
  | succ x ih =>
    intro n h9 hn ht
    obtain ⟨n, rfl⟩ : ∃ k, n = k + 1 := ⟨n - 1, by omega⟩
    refine br_f (fun y => absurd ((nI_ltI (a := x + 1) (b := 1) (by omega) (by omega)).mp y) (by omega)) ?_
    refine sn_yalv P hc Y T (x + 1) rfl (by omega) h9 (fun z => absurd z (ht (x + 1) (by omega) (Nat.le_refl _))) (fun _ => br_t rfl (fun y ey => ?_))
    rw [ey, pk_m1]
    exact ih n (by omega) (by omega) (fun t h2 h3 => ht t h2 (by omega))
theorem sn_yexA (P : sn_PI c 0 st K V S oa ca sg dp pa) (hc : c ≤ 65) (Y : sn_YS c K V S oa sg pa f_nItems f_finalIdx a_kind a_val a_stopOf a_par a_prim) (T : sn_YT f_clearAll a_typed a_tLen L) (h0 : ∀ s, ¬ sn_hid oa ca L 0 (oa s)) (bp a : Nat) (h9 : a ≤ 9) (al : sn_AL oa ca L a)
    (h : ∀ rl rb tb tl ip, post 0 (f_cap, f_hcap, f_len, nI (bp + (sn_rr K V S oa ca L a_tText (ca a)).length), nI (bp + (sn_rr K V S oa ca L a_tText (oa a)).length), f_bodyLen, f_sBodyLen, f_merge, 1, 1, nI a, f_nItems, f_finalIdx, f_fromStruct, f_baseLen, nI bp, rl, tl, f_clearAll, f_svF, f_svL, f_hCount, a_buf, a_body, a_sBody, a_typed, a_tLen, a_tText, a_kind, a_val, a_stopOf, a_par, ip, a_prim, a_stack, a_occ, a_base, rb, tb, a_svT, a_hist)) :
    ∀ m x n, x + m = a → 1 ≤ x → m < n → (∀ t, x ≤ t → t < a → ¬ sn_AL oa ca L t) → wY_expand_211 post f_cap f_hcap f_len f_caret f_sel f_bodyLen f_sBodyLen f_merge f_session f_selected f_active f_nItems f_finalIdx f_fromStruct f_baseLen (nI bp) f_rlen f_tlen f_clearAll f_svF f_svL f_hCount a_buf a_body a_sBody a_typed a_tLen a_tText a_kind a_val a_stopOf a_par a_ipos a_prim a_stack a_occ a_base a_rbuf a_tbuf a_svT a_hist n (nI x) := by
  have c0 := P.1
  intro m
  induction m with
  | zero =>
    intro x n hi h1 hn ht
    obtain ⟨n, rfl⟩ : ∃ k, n = k + 1 := ⟨n - 1, by omega⟩
    obtain rfl : x = a := by omega
    have oc : oa x < c := by
      have := al.1
      rcases sn_clo P x with z | z | z <;> omega
    have so := sn_sgx P.2.1 (show oa x ≤ c by omega)
    refine br_f (fun y => absurd ((nI_ltI (a := 9) (b := x) (by omega) (by omega)).mp y) (by omega)) ⟨vp_in_nI (by omega) (by omega), ?_⟩
    rw [nI_clamp (by omega), Y.2.2.1 x h1 h9, if_neg al.1]
    refine br_f (nI_pos (by omega)) ?_
    exact sn_ysel P hc Y T bp x rfl h1 h9 al h
  | succ m ih =>
    intro x n hi h1 hn ht
    obtain ⟨n, rfl⟩ : ∃ k, n = k + 1 := ⟨n - 1, by omega⟩
    refine br_f (fun y => absurd ((nI_ltI (a := 9) (b := x) (by omega) (by omega)).mp y) (by omega)) ⟨vp_in_nI (by omega) (by omega), ?_⟩
    have z : oa x = 1000 := by
      by_cases z : oa x = 1000
      · exact z
      · exact absurd ⟨z, h0 x⟩ (ht x (Nat.le_refl _) (by omega))
    rw [nI_clamp (by omega), Y.2.2.1 x h1 (by omega), if_pos z]
    refine br_t (by decide) (fun y ey => ?_)
    rw [ey, nI_1]
    exact ih (x + 1) n (by omega) (by omega) (by omega) (fun t h2 h3 => ht t (by omega) h3)
theorem sn_yexN (P : sn_PI c 0 st K V S oa ca sg dp pa) (hc : c ≤ 65) (h00 : oa 0 < c) (Y : sn_YS c K V S oa sg pa f_nItems f_finalIdx a_kind a_val a_stopOf a_par a_prim) (T : sn_YT f_clearAll a_typed a_tLen L) (h0 : ∀ s, ¬ sn_hid oa ca L 0 (oa s)) (bp : Nat)
    (h : ∀ rl rb tb tl ip, post 0 (f_cap, f_hcap, f_len, nI (bp + (sn_rr K V S oa ca L a_tText (oa 0)).length), nI (bp + (sn_rr K V S oa ca L a_tText (oa 0)).length), f_bodyLen, f_sBodyLen, f_merge, 0, 0, (-1), f_nItems, f_finalIdx, f_fromStruct, f_baseLen, nI bp, rl, tl, f_clearAll, f_svF, f_svL, f_hCount, a_buf, a_body, a_sBody, a_typed, a_tLen, a_tText, a_kind, a_val, a_stopOf, a_par, ip, a_prim, a_stack, a_occ, a_base, rb, tb, a_svT, a_hist)) :
    ∀ m x n, x + m = 10 → 1 ≤ x → m < n → (∀ t, x ≤ t → t ≤ 9 → ¬ sn_AL oa ca L t) → wY_expand_211 post f_cap f_hcap f_len f_caret f_sel f_bodyLen f_sBodyLen f_merge f_session f_selected f_active f_nItems f_finalIdx f_fromStruct f_baseLen (nI bp) f_rlen f_tlen f_clearAll f_svF f_svL f_hCount a_buf a_body a_sBody a_typed a_tLen a_tText a_kind a_val a_stopOf a_par a_ipos a_prim a_stack a_occ a_base a_rbuf a_tbuf a_svT a_hist n (nI x) := by
  intro m
  induction m with
  | zero =>
    intro x n hi h1 hn ht
    obtain ⟨n, rfl⟩ : ∃ k, n = k + 1 := ⟨n - 1, by omega⟩
    obtain rfl : x = 10 := by omega
    refine br_t (by decide) ?_
    exact sn_yfp P hc Y T bp h00 (fun rl rb tb tl ip => h rl rb tb tl ip)
  | succ m ih =>
    intro x n hi h1 hn ht
    obtain ⟨n, rfl⟩ : ∃ k, n = k + 1 := ⟨n - 1, by omega⟩
    refine br_f (fun y => absurd ((nI_ltI (a := 9) (b := x) (by omega) (by omega)).mp y) (by omega)) ⟨vp_in_nI (by omega) (by omega), ?_⟩
    have z : oa x = 1000 := by
      by_cases z : oa x = 1000
      · exact z
      · exact absurd ⟨z, h0 x⟩ (ht x (Nat.le_refl _) (by omega))
    rw [nI_clamp (by omega), Y.2.2.1 x h1 (by omega), if_pos z]
    refine br_t (by decide) (fun y ey => ?_)
    rw [ey, nI_1]
    exact ih (x + 1) n (by omega) (by omega) (by omega) (fun t h2 h3 => ht t (by omega) h3)
theorem sn_ystS {post : Int32 → Prop} (P : sn_PI c 0 st K V S oa ca sg dp pa) (hc : c ≤ 65) (Y : sn_YS c K V S oa sg pa f_nItems f_finalIdx a_kind a_val a_stopOf a_par a_prim) (TL : ∀ s, s ≤ 9 → sn_TL (L s) (a_typed s) (a_tLen s)) (s : Nat) (h9 : s ≤ 9)
    (h4 : s = 0 → post 4) (h0 : 1 ≤ s → oa s = 1000 → post 0) (h3 : 1 ≤ s → oa s ≠ 1000 → ¬ sn_AL oa ca L s → post 3) (h1 : 1 ≤ s → sn_AL oa ca L s → L s = -1 → post 1) (h2 : 1 ≤ s → sn_AL oa ca L s → L s ≠ -1 → post 2) : wpY_stopState post (f_cap, f_hcap, f_len, f_caret, f_sel, f_bodyLen, f_sBodyLen, f_merge, 1, f_selected, f_active, f_nItems, f_finalIdx, f_fromStruct, f_baseLen, f_baseP, f_rlen, f_tlen, 0, f_svF, f_svL, f_hCount, a_buf, a_body, a_sBody, a_typed, a_tLen, a_tText, a_kind, a_val, a_stopOf, a_par, a_ipos, a_prim, a_stack, a_occ, a_base, a_rbuf, a_tbuf, a_svT, a_hist) (nI s) := by
  have c0 := P.1
  have T := sn_TLy TL
  refine br_f (by decide) (br_f (nI_pos (by omega)) (br_t (nI_le (b := 9) h9 (by omega)) ?_))
  by_cases s0 : s = 0
  · exact br_t (by rw [s0]; rfl) (h4 s0)
  · have v10 : vp_in (nI s) 10 := vp_in_nI (by omega) (by omega)
    refine br_f (sn_ne s0 (by omega) (by omega)) ⟨v10, ?_⟩
    rw [nI_clamp (by omega), Y.2.2.1 s (by omega) h9]
    by_cases z : oa s = 1000
    · rw [if_pos z]
      exact br_f (by decide) (h0 (by omega) z)
    · rw [if_neg z]
      have oc : oa s < c ∧ K (oa s) ≠ 2 := by rcases sn_clo P s with a | a | a <;> omega
      have so := sn_sgx P.2.1 (show oa s ≤ c by omega)
      refine br_t (nI_pos' (by omega)) ⟨v10, ?_⟩
      refine sn_yhid P hc Y T 0 (oa s) rfl oc.1 oc.2 (Or.inl ⟨rfl, rfl⟩) (fun w => br_f (by decide) (h3 (by omega) z (fun q => q.2 w))) (fun w => br_t rfl ⟨v10, ?_⟩)
      rcases TL s h9 with ⟨a, b, _⟩ | ⟨m, hm, a, b, _⟩
      · exact br_t b (h1 (by omega) ⟨z, w⟩ a)
      · exact br_f (by rw [b]; decide) (h2 (by omega) ⟨z, w⟩ (by rw [a]; exact sn_nm1 (by omega)))
end SOE
section SOF
variable {K S oa ca sg dp pa st : Nat → Nat} {V : Nat → Int32} {c : Nat}
variable {f_capacity f_historyCap f_length f_caret f_selStart f_bodyLength f_undoDepth f_merge f_itemCount f_baseLength f_basePos f_activeStop f_selected f_draftCount f_depth f_readAt : Int32} {a_text a_body a_history a_itemKind a_itemValue a_openAt a_closeAt a_base a_typedLength a_typedText a_draftKind a_draftValue a_draftOpenAt a_draftCloseAt a_enclosing a_trialLength : Nat → Int32}
theorem sn_xstS {post : Int32 → Prop} (P : sn_PI c 0 st K V S oa ca sg dp pa) (XS : sn_XS c K V oa ca a_itemKind a_itemValue a_openAt a_closeAt) (hs : f_activeStop ≠ -1) (s : Nat) (h9 : s ≤ 9)
    (h4 : s = 0 → post 4) (h0 : 1 ≤ s → oa s = 1000 → post 0) (h3 : 1 ≤ s → oa s ≠ 1000 → ¬ sn_AL oa ca a_typedLength s → post 3) (h1 : 1 ≤ s → sn_AL oa ca a_typedLength s → a_typedLength s = -1 → post 1) (h2 : 1 ≤ s → sn_AL oa ca a_typedLength s → a_typedLength s ≠ -1 → post 2) : wpX_stopState post (f_capacity, f_historyCap, f_length, f_caret, f_selStart, f_bodyLength, f_undoDepth, f_merge, f_itemCount, f_baseLength, f_basePos, f_activeStop, f_selected, f_draftCount, f_depth, f_readAt, a_text, a_body, a_history, a_itemKind, a_itemValue, a_openAt, a_closeAt, a_base, a_typedLength, a_typedText, a_draftKind, a_draftValue, a_draftOpenAt, a_draftCloseAt, a_enclosing, a_trialLength) (nI s) := by
  have b := sn_clB P s
  unfold wpX_stopState
  refine sn_xins (fun z => absurd z hs) (fun _ => br_f (by decide) (br_f (nI_pos (by omega)) (br_t (nI_le (b := 9) h9 (by omega)) ?_)))
  by_cases s0 : s = 0
  · exact br_t (by rw [s0]; rfl) (h4 s0)
  · have v10 : vp_in (nI s) 10 := vp_in_nI (by omega) (by omega)
    refine br_f (sn_ne s0 (by omega) (by omega)) ⟨v10, ?_⟩
    rw [nI_clamp (by omega), XS.2.1 s h9]
    by_cases z : oa s = 1000
    · exact br_t (sn_o0 z) (h0 (by omega) z)
    · refine br_f (fun y => z ((sn_oM b.1).mp y)) ?_
      refine sn_xalv P XS s rfl h9 (fun w => br_f (by decide) ⟨v10, ?_⟩) (fun w => br_t rfl (h3 (by omega) z w))
      by_cases l : a_typedLength s = -1
      · exact br_t l (h1 (by omega) w l)
      · exact br_f l (h2 (by omega) w l)
end SOF
