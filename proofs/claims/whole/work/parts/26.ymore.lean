section SNZ
/-! Y: the rest -/
variable {f_cap f_hcap f_len f_caret f_sel f_bodyLen f_sBodyLen f_merge f_session f_selected f_active f_nItems f_finalIdx f_fromStruct f_baseLen f_baseP f_rlen f_tlen f_clearAll f_svF f_svL f_hCount : Int32} {a_buf a_body a_sBody a_typed a_tLen a_tText a_kind a_val a_stopOf a_par a_ipos a_prim a_stack a_occ a_base a_rbuf a_tbuf a_svT a_hist : Nat → Int32}
variable {post : Int32 → SY → Prop}
theorem sn_ytac (x : Int32) (k l : Nat) (hk : k ≤ l) (hl : l < 64) (h : post 0 (f_cap, f_hcap, nI (l + 1), nI (k + 1), nI (k + 1), f_bodyLen, f_sBodyLen, 1, f_session, f_selected, f_active, f_nItems, f_finalIdx, f_fromStruct, f_baseLen, f_baseP, f_rlen, f_tlen, f_clearAll, f_svF, f_svL, f_hCount, upd (sn_sh a_buf k l) k x, a_body, a_sBody, a_typed, a_tLen, a_tText, a_kind, a_val, a_stopOf, a_par, a_ipos, a_prim, a_stack, a_occ, a_base, a_rbuf, a_tbuf, a_svT, a_hist)) :
    ∃ n, wY_typeChar_52 post x f_cap f_hcap (nI l) (nI k) f_sel f_bodyLen f_sBodyLen f_merge f_session f_selected f_active f_nItems f_finalIdx f_fromStruct f_baseLen f_baseP f_rlen f_tlen f_clearAll f_svF f_svL f_hCount n (nI l) a_buf a_body a_sBody a_typed a_tLen a_tText a_kind a_val a_stopOf a_par a_ipos a_prim a_stack a_occ a_base a_rbuf a_tbuf a_svT a_hist := by
  have go : ∀ m i n, k + m = i → i ≤ l → m < n → wY_typeChar_52 post x f_cap f_hcap (nI l) (nI k) f_sel f_bodyLen f_sBodyLen f_merge f_session f_selected f_active f_nItems f_finalIdx f_fromStruct f_baseLen f_baseP f_rlen f_tlen f_clearAll f_svF f_svL f_hCount n (nI i) (sn_sh a_buf i l) a_body a_sBody a_typed a_tLen a_tText a_kind a_val a_stopOf a_par a_ipos a_prim a_stack a_occ a_base a_rbuf a_tbuf a_svT a_hist := by
    intro m
    induction m with
    | zero =>
      intro i n hi hil hn
      obtain ⟨n, rfl⟩ : ∃ k, n = k + 1 := ⟨n - 1, by omega⟩
      obtain rfl : i = k := by omega
      refine br_t (nI_le (Nat.le_refl _) (by omega)) ⟨vp_in_nI (by omega) (by omega), fun y ey z ez w ew => ?_⟩
      rw [nI_clamp (by omega)] at ey
      rw [nI_1] at ez ew
      subst ey ez ew
      exact h
    | succ m ih =>
      intro i n hi hil hn
      obtain ⟨n, rfl⟩ : ∃ k, n = k + 1 := ⟨n - 1, by omega⟩
      obtain ⟨j, rfl⟩ : ∃ j, i = j + 1 := ⟨i - 1, by omega⟩
      refine br_f (nI_ge (by omega) (by omega)) (br_f (nI_ge (a := j + 1) (b := 64) (by omega) (by omega)) ?_)
      rw [nI_pred]
      refine ⟨vp_in_nI (by omega) (by omega), vp_in_nI (by omega) (by omega), fun y ey z ez => ?_⟩
      rw [nI_clamp (by omega), nI_clamp (by omega), sn_shS _ _ _ hil] at ey
      rw [ey, ez, pk_m1]
      exact ih j n (by omega) (by omega) (by omega)
  have w := go (l - k) l (l - k + 1) (by omega) (Nat.le_refl _) (by omega)
  rw [sn_sh0] at w
  exact ⟨_, w⟩
theorem sn_ybac (k l : Nat) (h1 : 1 ≤ k) (hk : k ≤ l) (hl : l ≤ 64) (h : post 0 (f_cap, f_hcap, nI (l - 1), nI (k - 1), nI (k - 1), f_bodyLen, f_sBodyLen, 0, f_session, f_selected, f_active, f_nItems, f_finalIdx, f_fromStruct, f_baseLen, f_baseP, f_rlen, f_tlen, f_clearAll, f_svF, f_svL, f_hCount, sn_cp a_buf k a_buf (k - 1) (l - k), a_body, a_sBody, a_typed, a_tLen, a_tText, a_kind, a_val, a_stopOf, a_par, a_ipos, a_prim, a_stack, a_occ, a_base, a_rbuf, a_tbuf, a_svT, a_hist)) :
    ∃ n, wY_backspace_28 post f_cap f_hcap (nI l) (nI k) f_sel f_bodyLen f_sBodyLen f_merge f_session f_selected f_active f_nItems f_finalIdx f_fromStruct f_baseLen f_baseP f_rlen f_tlen f_clearAll f_svF f_svL f_hCount n (nI (k - 1)) a_buf a_body a_sBody a_typed a_tLen a_tText a_kind a_val a_stopOf a_par a_ipos a_prim a_stack a_occ a_base a_rbuf a_tbuf a_svT a_hist := by
  have el : nI l - 1 = nI (l - 1) := sn_sb l 1 (by omega) rfl
  have ek : nI k - 1 = nI (k - 1) := sn_sb k 1 (by omega) rfl
  have go : ∀ m i n, i + m = l - k → m < n → wY_backspace_28 post f_cap f_hcap (nI l) (nI k) f_sel f_bodyLen f_sBodyLen f_merge f_session f_selected f_active f_nItems f_finalIdx f_fromStruct f_baseLen f_baseP f_rlen f_tlen f_clearAll f_svF f_svL f_hCount n (nI (k - 1 + i)) (sn_cp a_buf k a_buf (k - 1) i) a_body a_sBody a_typed a_tLen a_tText a_kind a_val a_stopOf a_par a_ipos a_prim a_stack a_occ a_base a_rbuf a_tbuf a_svT a_hist := by
    intro m
    induction m with
    | zero =>
      intro i n hi hn
      obtain ⟨n, rfl⟩ : ∃ k, n = k + 1 := ⟨n - 1, by omega⟩
      obtain rfl : i = l - k := by omega
      refine br_t (by rw [el]; exact nI_le (by omega) (by omega)) (fun y ey z ez => ?_)
      rw [el] at ey
      rw [ek] at ez
      subst ey ez
      exact h
    | succ m ih =>
      intro i n hi hn
      obtain ⟨n, rfl⟩ : ∃ k, n = k + 1 := ⟨n - 1, by omega⟩
      refine br_f (by rw [el]; exact nI_ge (by omega) (by omega)) (br_f (nI_ge (a := k - 1 + i) (b := 63) (by omega) (by omega)) ?_)
      rw [nI_1]
      refine ⟨vp_in_nI (by omega) (by omega), vp_in_nI (by omega) (by omega), fun y ey z ez => ?_⟩
      rw [nI_clamp (by omega), nI_clamp (by omega), sn_cpO (by omega), show k - 1 + i + 1 = k + i by omega, sn_cpS] at ey
      rw [ey, ez]
      exact ih (i + 1) n (by omega) (by omega)
  have w := go (l - k) 0 (l - k + 1) (by omega) (by omega)
  rw [sn_cp0] at w
  exact ⟨_, w⟩
theorem sn_yex (n l : Nat) (hn : n ≤ 64) (hl : l ≤ 64)
    (h : ∀ ty tl : Nat → Int32, (∀ s, s ≤ 9 → ty s = 0) → (∀ s, s ≤ 9 → tl s = 0) → wY_expand_184 post f_cap f_hcap (nI l) f_caret f_sel (nI n) (nI n) f_merge f_session f_selected f_active f_nItems f_finalIdx f_fromStruct f_baseLen f_baseP f_rlen f_tlen f_clearAll f_svF f_svL f_hCount a_buf a_body (sn_cp a_body 0 a_sBody 0 n) ty tl a_tText a_kind a_val a_stopOf a_par a_ipos a_prim a_stack a_occ (sn_cp a_buf 0 a_base 0 l) a_rbuf a_tbuf a_svT a_hist) :
    ∃ m, wY_expand_88 post f_cap f_hcap (nI l) f_caret f_sel (nI n) f_sBodyLen f_merge f_session f_selected f_active f_nItems f_finalIdx f_fromStruct f_baseLen f_baseP f_rlen f_tlen f_clearAll f_svF f_svL f_hCount m 0 a_buf a_body a_sBody a_typed a_tLen a_tText a_kind a_val a_stopOf a_par a_ipos a_prim a_stack a_occ a_base a_rbuf a_tbuf a_svT a_hist := by
  have L152 : ∀ ty tl : Nat → Int32, (∀ s, s ≤ 9 → ty s = 0) → (∀ s, s ≤ 9 → tl s = 0) → ∃ m, wY_expand_152 post f_cap f_hcap (nI l) f_caret f_sel (nI n) (nI n) f_merge f_session f_selected f_active f_nItems f_finalIdx f_fromStruct f_baseLen f_baseP f_rlen f_tlen f_clearAll f_svF f_svL f_hCount m 0 a_buf a_body (sn_cp a_body 0 a_sBody 0 n) ty tl a_tText a_kind a_val a_stopOf a_par a_ipos a_prim a_stack a_occ a_base a_rbuf a_tbuf a_svT a_hist := by
    intro ty tl h1 h2
    have go : ∀ m k q, k + m = l → m < q → wY_expand_152 post f_cap f_hcap (nI l) f_caret f_sel (nI n) (nI n) f_merge f_session f_selected f_active f_nItems f_finalIdx f_fromStruct f_baseLen f_baseP f_rlen f_tlen f_clearAll f_svF f_svL f_hCount q (nI k) a_buf a_body (sn_cp a_body 0 a_sBody 0 n) ty tl a_tText a_kind a_val a_stopOf a_par a_ipos a_prim a_stack a_occ (sn_cp a_buf 0 a_base 0 k) a_rbuf a_tbuf a_svT a_hist := by
      intro m
      induction m with
      | zero =>
        intro k q hi hq
        obtain ⟨q, rfl⟩ : ∃ k, q = k + 1 := ⟨q - 1, by omega⟩
        obtain rfl : k = l := by omega
        exact br_t (nI_le (Nat.le_refl _) (by omega)) (h ty tl h1 h2)
      | succ m ih =>
        intro k q hi hq
        obtain ⟨q, rfl⟩ : ∃ k, q = k + 1 := ⟨q - 1, by omega⟩
        refine br_f (nI_ge (by omega) (by omega)) (br_f (nI_ge (a := k) (b := 64) (by omega) (by omega)) ⟨vp_in_nI (by omega) (by omega), vp_in_nI (by omega) (by omega), fun y ey z ez => ?_⟩)
        have w := sn_cpS a_buf 0 a_base 0 k
        rw [Nat.zero_add] at w
        rw [nI_clamp (by omega), w] at ey
        rw [ey, ez, nI_1]
        exact ih (k + 1) q (by omega) (by omega)
    have w := go l 0 (l + 1) (by omega) (by omega)
    rw [sn_cp0] at w
    exact ⟨_, w⟩
  have L124 : ∃ m, wY_expand_124 post f_cap f_hcap (nI l) f_caret f_sel (nI n) (nI n) f_merge f_session f_selected f_active f_nItems f_finalIdx f_fromStruct f_baseLen f_baseP f_rlen f_tlen f_clearAll f_svF f_svL f_hCount m 0 a_buf a_body (sn_cp a_body 0 a_sBody 0 n) a_typed a_tLen a_tText a_kind a_val a_stopOf a_par a_ipos a_prim a_stack a_occ a_base a_rbuf a_tbuf a_svT a_hist := by
    have go : ∀ m k q (ty tl : Nat → Int32), k + m = 10 → m < q → (∀ s, s < k → ty s = 0) → (∀ s, s < k → tl s = 0) → wY_expand_124 post f_cap f_hcap (nI l) f_caret f_sel (nI n) (nI n) f_merge f_session f_selected f_active f_nItems f_finalIdx f_fromStruct f_baseLen f_baseP f_rlen f_tlen f_clearAll f_svF f_svL f_hCount q (nI k) a_buf a_body (sn_cp a_body 0 a_sBody 0 n) ty tl a_tText a_kind a_val a_stopOf a_par a_ipos a_prim a_stack a_occ a_base a_rbuf a_tbuf a_svT a_hist := by
      intro m
      induction m with
      | zero =>
        intro k q ty tl hi hq h1 h2
        obtain ⟨q, rfl⟩ : ∃ k, q = k + 1 := ⟨q - 1, by omega⟩
        obtain rfl : k = 10 := by omega
        exact br_t (by decide) (L152 ty tl (fun s hs => h1 s (by omega)) (fun s hs => h2 s (by omega)))
      | succ m ih =>
        intro k q ty tl hi hq h1 h2
        obtain ⟨q, rfl⟩ : ∃ k, q = k + 1 := ⟨q - 1, by omega⟩
        refine br_f (nI_ge (a := k) (b := 10) (by omega) (by omega)) ⟨vp_in_nI (by omega) (by omega), fun y ey => ⟨vp_in_nI (by omega) (by omega), fun z ez u eu => ?_⟩⟩
        rw [nI_clamp (by omega)] at ey ez
        rw [sn_nar0] at ey
        rw [nI_1] at eu
        subst ey ez eu
        refine ih (k + 1) q _ _ (by omega) (by omega) (fun s hs => ?_) (fun s hs => ?_)
        · by_cases e : s = k
          · rw [e, pk_us]
          · rw [pk_un e]; exact h1 s (by omega)
        · by_cases e : s = k
          · rw [e, pk_us]
          · rw [pk_un e]; exact h2 s (by omega)
    exact ⟨_, go 10 0 11 _ _ (by omega) (by omega) (fun s hs => absurd hs (by omega)) (fun s hs => absurd hs (by omega))⟩
  have go : ∀ m k q, k + m = n → m < q → wY_expand_88 post f_cap f_hcap (nI l) f_caret f_sel (nI n) f_sBodyLen f_merge f_session f_selected f_active f_nItems f_finalIdx f_fromStruct f_baseLen f_baseP f_rlen f_tlen f_clearAll f_svF f_svL f_hCount q (nI k) a_buf a_body (sn_cp a_body 0 a_sBody 0 k) a_typed a_tLen a_tText a_kind a_val a_stopOf a_par a_ipos a_prim a_stack a_occ a_base a_rbuf a_tbuf a_svT a_hist := by
    intro m
    induction m with
    | zero =>
      intro k q hi hq
      obtain ⟨q, rfl⟩ : ∃ k, q = k + 1 := ⟨q - 1, by omega⟩
      obtain rfl : k = n := by omega
      exact br_t (nI_le (Nat.le_refl _) (by omega)) L124
    | succ m ih =>
      intro k q hi hq
      obtain ⟨q, rfl⟩ : ∃ k, q = k + 1 := ⟨q - 1, by omega⟩
      refine br_f (nI_ge (by omega) (by omega)) ⟨vp_in_nI (by omega) (by omega), vp_in_nI (by omega) (by omega), fun y ey z ez => ?_⟩
      have w := sn_cpS a_body 0 a_sBody 0 k
      rw [Nat.zero_add] at w
      rw [nI_clamp (by omega), w] at ey
      rw [ey, ez, nI_1]
      exact ih (k + 1) q (by omega) (by omega)
  have w := go n 0 (n + 1) (by omega) (by omega)
  rw [sn_cp0] at w
  exact ⟨_, w⟩
end SNZ
