section SNU
/-! Y: groups and snapshots -/
theorem sn_nar0 : vp_nar .boolean 0 = 0 := rfl
theorem sn_nar1 : vp_nar .boolean 1 = 1 := rfl
variable {f_cap f_hcap f_len f_caret f_sel f_bodyLen f_sBodyLen f_merge f_session f_selected f_active f_nItems f_finalIdx f_fromStruct f_baseLen f_baseP f_rlen f_tlen f_clearAll f_svF f_svL f_hCount : Int32} {a_buf a_body a_sBody a_typed a_tLen a_tText a_kind a_val a_stopOf a_par a_ipos a_prim a_stack a_occ a_base a_rbuf a_tbuf a_svT a_hist : Nat → Int32}
variable {post : SY → Prop}
theorem sn_y186 (d : Nat) (hd : d < 16) (h : post (f_cap, f_hcap, f_len, f_caret, f_sel, f_bodyLen, f_sBodyLen, f_merge, f_session, f_selected, f_active, f_nItems, f_finalIdx, f_fromStruct, f_baseLen, f_baseP, f_rlen, f_tlen, f_clearAll, f_svF, f_svL, f_hCount, a_buf, a_body, a_sBody, a_typed, a_tLen, a_tText, a_kind, a_val, a_stopOf, a_par, a_ipos, a_prim, a_stack, a_occ, a_base, a_rbuf, a_tbuf, a_svT, sn_cp a_tText 0 a_hist (170 * d + 90) 80)) : ∃ n, wY_save_186 post (nI (170 * d)) f_cap f_hcap f_len f_caret f_sel f_bodyLen f_sBodyLen f_merge f_session f_selected f_active f_nItems f_finalIdx f_fromStruct f_baseLen f_baseP f_rlen f_tlen f_clearAll f_svF f_svL f_hCount n 0 a_buf a_body a_sBody a_typed a_tLen a_tText a_kind a_val a_stopOf a_par a_ipos a_prim a_stack a_occ a_base a_rbuf a_tbuf a_svT a_hist := by
  have go : ∀ m k n, k + m = 80 → m < n → wY_save_186 post (nI (170 * d)) f_cap f_hcap f_len f_caret f_sel f_bodyLen f_sBodyLen f_merge f_session f_selected f_active f_nItems f_finalIdx f_fromStruct f_baseLen f_baseP f_rlen f_tlen f_clearAll f_svF f_svL f_hCount n (nI k) a_buf a_body a_sBody a_typed a_tLen a_tText a_kind a_val a_stopOf a_par a_ipos a_prim a_stack a_occ a_base a_rbuf a_tbuf a_svT (sn_cp a_tText 0 a_hist (170 * d + 90) k) := by
    intro m
    induction m with
    | zero =>
      intro k n hi hn
      obtain ⟨n, rfl⟩ : ∃ k, n = k + 1 := ⟨n - 1, by omega⟩
      obtain rfl : k = 80 := by omega
      exact br_t (by decide) h
    | succ m ih =>
      intro k n hi hn
      obtain ⟨n, rfl⟩ : ∃ k, n = k + 1 := ⟨n - 1, by omega⟩
      have ix : nI (170 * d) + 90 + nI k = nI (170 * d + 90 + k) := sn_ad _ _ (sn_ad _ 90 rfl) rfl
      refine br_f (nI_ge (a := k) (b := 80) (by omega) (by omega)) ⟨vp_in_nI (by omega) (by omega), ?_⟩
      rw [ix]
      refine ⟨vp_in_nI (by omega) (by omega), fun y ey z ez => ?_⟩
      have q := sn_cpS a_tText 0 a_hist (170 * d + 90) k
      rw [Nat.zero_add] at q
      rw [nI_clamp (by omega), nI_clamp (by omega), q] at ey
      rw [ey, ez, nI_1]
      exact ih (k + 1) n (by omega) (by omega)
  have w := go 80 0 81 (by omega) (by omega)
  rw [sn_cp0] at w
  exact ⟨_, w⟩
theorem sn_y130 {H0 : Nat → Int32} (d : Nat) (hd : d < 16) (hb : ∀ t, t ≤ 9 → sn_b1 (a_typed t))
    (h : ∀ H, (∀ j, j < 170 * d + 70 → H j = H0 j) → (∀ t, t ≤ 9 → H (170 * d + 70 + t) = a_typed t) → (∀ t, t ≤ 9 → H (170 * d + 80 + t) = a_tLen t) → ∃ n, wY_save_186 post (nI (170 * d)) f_cap f_hcap f_len f_caret f_sel f_bodyLen f_sBodyLen f_merge f_session f_selected f_active f_nItems f_finalIdx f_fromStruct f_baseLen f_baseP f_rlen f_tlen f_clearAll f_svF f_svL f_hCount n 0 a_buf a_body a_sBody a_typed a_tLen a_tText a_kind a_val a_stopOf a_par a_ipos a_prim a_stack a_occ a_base a_rbuf a_tbuf a_svT H) :
    ∃ n, wY_save_130 post (nI (170 * d)) f_cap f_hcap f_len f_caret f_sel f_bodyLen f_sBodyLen f_merge f_session f_selected f_active f_nItems f_finalIdx f_fromStruct f_baseLen f_baseP f_rlen f_tlen f_clearAll f_svF f_svL f_hCount n 0 a_buf a_body a_sBody a_typed a_tLen a_tText a_kind a_val a_stopOf a_par a_ipos a_prim a_stack a_occ a_base a_rbuf a_tbuf a_svT H0 := by
  have go : ∀ m k n H, k + m = 10 → m < n → (∀ j, j < 170 * d + 70 → H j = H0 j) → (∀ t, t < k → H (170 * d + 70 + t) = a_typed t) → (∀ t, t < k → H (170 * d + 80 + t) = a_tLen t) → wY_save_130 post (nI (170 * d)) f_cap f_hcap f_len f_caret f_sel f_bodyLen f_sBodyLen f_merge f_session f_selected f_active f_nItems f_finalIdx f_fromStruct f_baseLen f_baseP f_rlen f_tlen f_clearAll f_svF f_svL f_hCount n (nI k) a_buf a_body a_sBody a_typed a_tLen a_tText a_kind a_val a_stopOf a_par a_ipos a_prim a_stack a_occ a_base a_rbuf a_tbuf a_svT H := by
    intro m
    induction m with
    | zero =>
      intro k n H hi hn h1 h2 h3
      obtain ⟨n, rfl⟩ : ∃ k, n = k + 1 := ⟨n - 1, by omega⟩
      obtain rfl : k = 10 := by omega
      exact br_t (by decide) (h H h1 (fun t ht => h2 t (by omega)) (fun t ht => h3 t (by omega)))
    | succ m ih =>
      intro k n H hi hn h1 h2 h3
      obtain ⟨n, rfl⟩ : ∃ k, n = k + 1 := ⟨n - 1, by omega⟩
      have ix : nI (170 * d) + 70 + nI k = nI (170 * d + 70 + k) := sn_ad _ _ (sn_ad _ 70 rfl) rfl
      have iy : nI (170 * d) + 80 + nI k = nI (170 * d + 80 + k) := sn_ad _ _ (sn_ad _ 80 rfl) rfl
      have v10 : vp_in (nI k) 10 := vp_in_nI (by omega) (by omega)
      have J : ∀ z : Int32, z = a_typed k → wY_save_160 post (wY_save_130 post (nI (170 * d)) f_cap f_hcap f_len f_caret f_sel f_bodyLen f_sBodyLen f_merge f_session f_selected f_active f_nItems f_finalIdx f_fromStruct f_baseLen f_baseP f_rlen f_tlen f_clearAll f_svF f_svL f_hCount n) (nI (170 * d)) (nI k) z (nI (170 * d) + 70 + nI k) f_cap f_hcap f_len f_caret f_sel f_bodyLen f_sBodyLen f_merge f_session f_selected f_active f_nItems f_finalIdx f_fromStruct f_baseLen f_baseP f_rlen f_tlen f_clearAll f_svF f_svL f_hCount a_buf a_body a_sBody a_typed a_tLen a_tText a_kind a_val a_stopOf a_par a_ipos a_prim a_stack a_occ a_base a_rbuf a_tbuf a_svT H := by
        intro z ez
        rw [ix]
        refine ⟨vp_in_nI (by omega) (by omega), fun y ey => ⟨v10, ?_⟩⟩
        rw [iy]
        refine ⟨vp_in_nI (by omega) (by omega), fun u eu w ew => ?_⟩
        rw [nI_clamp (by omega), ez] at ey
        rw [nI_clamp (by omega), nI_clamp (by omega)] at eu
        rw [ew, nI_1, eu, ey]
        refine ih (k + 1) n _ (by omega) (by omega) (fun j hj => ?_) (fun t ht => ?_) (fun t ht => ?_)
        · rw [pk_un (by omega), pk_un (by omega)]; exact h1 j hj
        · rw [pk_un (by omega)]
          by_cases e : t = k
          · rw [e, pk_us]
          · rw [pk_un (by omega)]; exact h2 t (by omega)
        · by_cases e : t = k
          · rw [e, pk_us]
          · rw [pk_un (by omega), pk_un (by omega)]; exact h3 t (by omega)
      refine br_f (nI_ge (a := k) (b := 10) (by omega) (by omega)) ⟨v10, ?_⟩
      rw [nI_clamp (by omega)]
      rcases hb k (by omega) with b | b
      · exact br_t b (J 0 b.symm)
      · exact br_f (by rw [b]; decide) (J 1 b.symm)
  exact ⟨_, go 10 0 11 H0 (by omega) (by omega) (fun j _ => rfl) (fun t ht => absurd ht (by omega)) (fun t ht => absurd ht (by omega))⟩
theorem sn_ysave {yh : Nat → Int32} {x0 : Int32} (e d : Nat) (e0 : x0 = nI d) (hd : d < 16) (hs : ∀ j, j < 170 * d → a_hist j = yh (e + j)) (hb : ∀ t, t ≤ 9 → sn_b1 (a_typed t)) (hb1 : sn_b1 f_session) (hb2 : sn_b1 f_selected)
    (h : ∀ yh', sn_ysv yh yh' e d f_len f_caret f_sel f_session f_active f_selected a_buf a_typed a_tLen a_tText → post (f_cap, f_hcap, f_len, f_caret, f_sel, f_bodyLen, f_sBodyLen, f_merge, f_session, f_selected, f_active, f_nItems, f_finalIdx, f_fromStruct, f_baseLen, f_baseP, f_rlen, f_tlen, f_clearAll, f_svF, f_svL, f_hCount, a_buf, a_body, a_sBody, a_typed, a_tLen, a_tText, a_kind, a_val, a_stopOf, a_par, a_ipos, a_prim, a_stack, a_occ, a_base, a_rbuf, a_tbuf, a_svT, yh')) : wpY_save post (f_cap, f_hcap, f_len, f_caret, f_sel, f_bodyLen, f_sBodyLen, f_merge, f_session, f_selected, f_active, f_nItems, f_finalIdx, f_fromStruct, f_baseLen, f_baseP, f_rlen, f_tlen, f_clearAll, f_svF, f_svL, f_hCount, a_buf, a_body, a_sBody, a_typed, a_tLen, a_tText, a_kind, a_val, a_stopOf, a_par, a_ipos, a_prim, a_stack, a_occ, a_base, a_rbuf, a_tbuf, a_svT, a_hist) x0 := by
  subst e0
  intro x ex
  rw [sn_mu d 170 rfl, Nat.mul_comm] at ex
  subst ex
  have J : ∀ H0 : Nat → Int32, (∀ j, j < 170 * d → H0 j = yh (e + j)) → (∀ k, k < 64 → H0 (170 * d + k) = a_buf k) → H0 (170 * d + 64) = f_len → H0 (170 * d + 65) = f_caret → H0 (170 * d + 66) = f_sel → H0 (170 * d + 67) = f_session → H0 (170 * d + 68) = f_active → H0 (170 * d + 69) = f_selected →
      ∃ n, wY_save_130 post (nI (170 * d)) f_cap f_hcap f_len f_caret f_sel f_bodyLen f_sBodyLen f_merge f_session f_selected f_active f_nItems f_finalIdx f_fromStruct f_baseLen f_baseP f_rlen f_tlen f_clearAll f_svF f_svL f_hCount n 0 a_buf a_body a_sBody a_typed a_tLen a_tText a_kind a_val a_stopOf a_par a_ipos a_prim a_stack a_occ a_base a_rbuf a_tbuf a_svT H0 := by
    intro H0 q0 q1 q2 q3 q4 q5 q6 q7
    refine sn_y130 d hd hb (fun H h1 h2 h3 => sn_y186 d hd (h _ ⟨fun j hj => ?_, fun k hk => ?_, ?_, ?_, ?_, ?_, ?_, ?_, fun k hk => ?_, fun k hk => ?_, fun k hk => ?_⟩))
    · rw [sn_cpO (by omega), h1 j (by omega)]; exact q0 j hj
    · rw [sn_cpO (by omega), h1 _ (by omega)]; exact q1 k hk
    · rw [sn_cpO (by omega), h1 _ (by omega)]; exact q2
    · rw [sn_cpO (by omega), h1 _ (by omega)]; exact q3
    · rw [sn_cpO (by omega), h1 _ (by omega)]; exact q4
    · rw [sn_cpO (by omega), h1 _ (by omega)]; exact q5
    · rw [sn_cpO (by omega), h1 _ (by omega)]; exact q6
    · rw [sn_cpO (by omega), h1 _ (by omega)]; exact q7
    · rw [sn_cpO (by omega)]; exact h2 k hk
    · rw [sn_cpO (by omega)]; exact h3 k hk
    · rw [sn_cpI hk, Nat.zero_add]
  have c4 : (nI (170 * d) + 64).toNatClampNeg = 170 * d + 64 := pk_cl _ (sn_ad _ 64 rfl)
  have c5 : (nI (170 * d) + 65).toNatClampNeg = 170 * d + 65 := pk_cl _ (sn_ad _ 65 rfl)
  have c6 : (nI (170 * d) + 66).toNatClampNeg = 170 * d + 66 := pk_cl _ (sn_ad _ 66 rfl)
  have c7 : (nI (170 * d) + 67).toNatClampNeg = 170 * d + 67 := pk_cl _ (sn_ad _ 67 rfl)
  have c8 : (nI (170 * d) + 68).toNatClampNeg = 170 * d + 68 := pk_cl _ (sn_ad _ 68 rfl)
  have c9 : (nI (170 * d) + 69).toNatClampNeg = 170 * d + 69 := pk_cl _ (sn_ad _ 69 rfl)
  have go : ∀ m k n, k + m = 64 → m < n → wY_save_8 post (nI (170 * d)) f_cap f_hcap f_len f_caret f_sel f_bodyLen f_sBodyLen f_merge f_session f_selected f_active f_nItems f_finalIdx f_fromStruct f_baseLen f_baseP f_rlen f_tlen f_clearAll f_svF f_svL f_hCount n (nI k) a_buf a_body a_sBody a_typed a_tLen a_tText a_kind a_val a_stopOf a_par a_ipos a_prim a_stack a_occ a_base a_rbuf a_tbuf a_svT (sn_cp a_buf 0 a_hist (170 * d) k) := by
    intro m
    induction m with
    | zero =>
      intro k n hi hn
      obtain ⟨n, rfl⟩ : ∃ k, n = k + 1 := ⟨n - 1, by omega⟩
      obtain rfl : k = 64 := by omega
      refine br_t (by decide) ⟨pk_in (170 * d + 64) 2720 (by omega) (sn_ad _ 64 rfl), ?_⟩
      intro y1 e1
      refine ⟨pk_in (170 * d + 65) 2720 (by omega) (sn_ad _ 65 rfl), ?_⟩
      intro y2 e2
      refine ⟨pk_in (170 * d + 66) 2720 (by omega) (sn_ad _ 66 rfl), ?_⟩
      intro y3 e3
      rw [c4] at e1
      rw [c5] at e2
      rw [c6] at e3
      subst e1 e2 e3
      have J2 : ∀ z : Int32, z = f_session → wY_save_93 post (nI (170 * d)) z (nI (170 * d) + 67) f_cap f_hcap f_len f_caret f_sel f_bodyLen f_sBodyLen f_merge f_session f_selected f_active f_nItems f_finalIdx f_fromStruct f_baseLen f_baseP f_rlen f_tlen f_clearAll f_svF f_svL f_hCount a_buf a_body a_sBody a_typed a_tLen a_tText a_kind a_val a_stopOf a_par a_ipos a_prim a_stack a_occ a_base a_rbuf a_tbuf a_svT (upd (upd (upd (sn_cp a_buf 0 a_hist (170 * d) 64) (170 * d + 64) f_len) (170 * d + 65) f_caret) (170 * d + 66) f_sel) := by
        intro z ez
        refine ⟨pk_in (170 * d + 67) 2720 (by omega) (sn_ad _ 67 rfl), ?_⟩
        intro y4 e4
        refine ⟨pk_in (170 * d + 68) 2720 (by omega) (sn_ad _ 68 rfl), ?_⟩
        intro y5 e5
        rw [c7, ez] at e4
        rw [c8] at e5
        subst e4 e5
        have v9 : vp_in (nI (170 * d) + 69) 2720 := pk_in (170 * d + 69) 2720 (by omega) (sn_ad _ 69 rfl)
        have J3 : ∀ z : Int32, z = f_selected → ∀ y6 : Nat → Int32, y6 = upd (upd (upd (upd (upd (upd (sn_cp a_buf 0 a_hist (170 * d) 64) (170 * d + 64) f_len) (170 * d + 65) f_caret) (170 * d + 66) f_sel) (170 * d + 67) f_session) (170 * d + 68) f_active) (nI (170 * d) + 69).toNatClampNeg z → ∃ n, wY_save_130 post (nI (170 * d)) f_cap f_hcap f_len f_caret f_sel f_bodyLen f_sBodyLen f_merge f_session f_selected f_active f_nItems f_finalIdx f_fromStruct f_baseLen f_baseP f_rlen f_tlen f_clearAll f_svF f_svL f_hCount n 0 a_buf a_body a_sBody a_typed a_tLen a_tText a_kind a_val a_stopOf a_par a_ipos a_prim a_stack a_occ a_base a_rbuf a_tbuf a_svT y6 := by
          intro z ez y6 e6
          rw [c9, ez] at e6
          subst e6
          refine J _ (fun j hj => ?_) (fun k hk => ?_) ?_ ?_ ?_ ?_ ?_ ?_
          · rw [pk_un (by omega), pk_un (by omega), pk_un (by omega), pk_un (by omega), pk_un (by omega), pk_un (by omega), sn_cpO (by omega)]; exact hs j hj
          · rw [pk_un (by omega), pk_un (by omega), pk_un (by omega), pk_un (by omega), pk_un (by omega), pk_un (by omega), sn_cpI hk, Nat.zero_add]
          · rw [pk_un (by omega), pk_un (by omega), pk_un (by omega), pk_un (by omega), pk_un (by omega), pk_us]
          · rw [pk_un (by omega), pk_un (by omega), pk_un (by omega), pk_un (by omega), pk_us]
          · rw [pk_un (by omega), pk_un (by omega), pk_un (by omega), pk_us]
          · rw [pk_un (by omega), pk_un (by omega), pk_us]
          · rw [pk_un (by omega), pk_us]
          · rw [pk_us]
        rcases hb2 with b | b
        · exact br_t b ⟨v9, J3 0 b.symm⟩
        · exact br_f (by rw [b]; decide) ⟨v9, J3 1 b.symm⟩
      rcases hb1 with b | b
      · exact br_t b (J2 0 b.symm)
      · exact br_f (by rw [b]; decide) (J2 1 b.symm)
    | succ m ih =>
      intro k n hi hn
      obtain ⟨n, rfl⟩ : ∃ k, n = k + 1 := ⟨n - 1, by omega⟩
      refine br_f (nI_ge (a := k) (b := 64) (by omega) (by omega)) ⟨vp_in_nI (by omega) (by omega), ?_⟩
      rw [nI_add]
      refine ⟨vp_in_nI (by omega) (by omega), fun y ey z ez => ?_⟩
      have q := sn_cpS a_buf 0 a_hist (170 * d) k
      rw [Nat.zero_add] at q
      rw [nI_clamp (by omega), nI_clamp (by omega), q] at ey
      rw [ey, ez, nI_1]
      exact ih (k + 1) n (by omega) (by omega)
  have w := go 64 0 65 (by omega) (by omega)
  rw [sn_cp0] at w
  exact ⟨_, w⟩
theorem sn_ypush (e d dep hc : Nat) (h16 : hc ≤ 16) (hed : (dep < hc ∧ e = 0 ∧ d = dep) ∨ (dep = hc ∧ e = 1 ∧ d + 1 = dep)) (hb : ∀ t, t ≤ 9 → sn_b1 (a_typed t)) (hb1 : sn_b1 f_session) (hb2 : sn_b1 f_selected)
    (h : ∀ yh', sn_ysv a_hist yh' (170 * e) d f_len f_caret f_sel f_session f_active f_selected a_buf a_typed a_tLen a_tText → post (f_cap, nI hc, f_len, f_caret, f_sel, f_bodyLen, f_sBodyLen, f_merge, f_session, f_selected, f_active, f_nItems, f_finalIdx, f_fromStruct, f_baseLen, f_baseP, f_rlen, f_tlen, f_clearAll, f_svF, f_svL, nI (d + 1), a_buf, a_body, a_sBody, a_typed, a_tLen, a_tText, a_kind, a_val, a_stopOf, a_par, a_ipos, a_prim, a_stack, a_occ, a_base, a_rbuf, a_tbuf, a_svT, yh')) :
    wpY_push post (f_cap, nI hc, f_len, f_caret, f_sel, f_bodyLen, f_sBodyLen, f_merge, f_session, f_selected, f_active, f_nItems, f_finalIdx, f_fromStruct, f_baseLen, f_baseP, f_rlen, f_tlen, f_clearAll, f_svF, f_svL, nI dep, a_buf, a_body, a_sBody, a_typed, a_tLen, a_tText, a_kind, a_val, a_stopOf, a_par, a_ipos, a_prim, a_stack, a_occ, a_base, a_rbuf, a_tbuf, a_svT, a_hist) := by
  rcases hed with ⟨h1, h2, h3⟩ | ⟨h1, h2, h3⟩
  · subst h2 h3
    refine br_t (nI_lt h1 (by omega)) ?_
    refine sn_ysave 0 d rfl (by omega) (fun j _ => by rw [Nat.zero_add]) hb hb1 hb2 (fun yh' q => ?_)
    intro y ey
    rw [ey, nI_1]
    exact h yh' q
  · subst h2 h1
    refine br_f (nI_nlt (Nat.le_refl _) (by omega)) ?_
    have e1 : nI dep - 1 = nI d := by rw [← h3, nI_pred]
    have e2 : (nI dep - 1) * 170 = nI (170 * d) := by rw [e1, sn_mu d 170 rfl, Nat.mul_comm]
    have go : ∀ m k n, k + m = 170 * d → m < n → wY_push_13 post f_cap (nI dep) f_len f_caret f_sel f_bodyLen f_sBodyLen f_merge f_session f_selected f_active f_nItems f_finalIdx f_fromStruct f_baseLen f_baseP f_rlen f_tlen f_clearAll f_svF f_svL (nI dep) n (nI k) a_buf a_body a_sBody a_typed a_tLen a_tText a_kind a_val a_stopOf a_par a_ipos a_prim a_stack a_occ a_base a_rbuf a_tbuf a_svT (sn_cp a_hist 170 a_hist 0 k) := by
      intro m
      induction m with
      | zero =>
        intro k n hi hn
        obtain ⟨n, rfl⟩ : ∃ k, n = k + 1 := ⟨n - 1, by omega⟩
        obtain rfl : k = 170 * d := by omega
        refine br_t (by rw [e2]; exact nI_le (Nat.le_refl _) (by omega)) ?_
        intro y ey
        rw [e1] at ey
        subst ey
        refine sn_ysave (yh := a_hist) 170 d rfl (by omega) (fun j hj => ?_) hb hb1 hb2 (fun yh' q => ?_)
        · have q := sn_cpI (a := a_hist) (b := a_hist) (p := 170) (q := 0) (n := 170 * d) (j := j) hj
          rw [Nat.zero_add] at q
          exact q
        · intro y ey
          rw [ey, nI_1]
          exact h yh' q
      | succ m ih =>
        intro k n hi hn
        obtain ⟨n, rfl⟩ : ∃ k, n = k + 1 := ⟨n - 1, by omega⟩
        have ix : nI k + 170 = nI (k + 170) := sn_ad _ 170 rfl
        refine br_f (by rw [e2]; exact nI_ge (by omega) (by omega)) ?_
        rw [ix]
        refine br_f (nI_ge (a := k + 170) (b := 2720) (by omega) (by omega)) ⟨vp_in_nI (by omega) (by omega), vp_in_nI (by omega) (by omega), fun y ey z ez => ?_⟩
        have q := sn_cpS a_hist 170 a_hist 0 k
        rw [Nat.zero_add] at q
        rw [nI_clamp (by omega), nI_clamp (by omega), sn_cpO (by omega), Nat.add_comm k 170, q] at ey
        rw [ey, ez, nI_1]
        exact ih (k + 1) n (by omega) (by omega)
    have w := go (170 * d) 0 (170 * d + 1) (by omega) (by omega)
    rw [sn_cp0] at w
    exact ⟨_, w⟩
theorem sn_yrst {x0 : Int32} (d : Nat) (e0 : x0 = nI d) (hd : d < 16) (hb : ∀ t, t ≤ 9 → sn_b1 (a_hist (170 * d + 70 + t))) (hb1 : sn_b1 (a_hist (170 * d + 67))) (hb2 : sn_b1 (a_hist (170 * d + 69)))
    (h : ∀ ty tl : Nat → Int32, (∀ t, t ≤ 9 → ty t = a_hist (170 * d + 70 + t)) → (∀ t, t ≤ 9 → tl t = a_hist (170 * d + 80 + t)) → post (f_cap, f_hcap, a_hist (170 * d + 64), a_hist (170 * d + 65), a_hist (170 * d + 66), f_bodyLen, f_sBodyLen, f_merge, a_hist (170 * d + 67), a_hist (170 * d + 69), a_hist (170 * d + 68), f_nItems, f_finalIdx, f_fromStruct, f_baseLen, f_baseP, f_rlen, f_tlen, f_clearAll, f_svF, f_svL, f_hCount, sn_cp a_hist (170 * d) a_buf 0 64, a_body, a_sBody, ty, tl, sn_cp a_hist (170 * d + 90) a_tText 0 80, a_kind, a_val, a_stopOf, a_par, a_ipos, a_prim, a_stack, a_occ, a_base, a_rbuf, a_tbuf, a_svT, a_hist)) :
    wpY_restore post (f_cap, f_hcap, f_len, f_caret, f_sel, f_bodyLen, f_sBodyLen, f_merge, f_session, f_selected, f_active, f_nItems, f_finalIdx, f_fromStruct, f_baseLen, f_baseP, f_rlen, f_tlen, f_clearAll, f_svF, f_svL, f_hCount, a_buf, a_body, a_sBody, a_typed, a_tLen, a_tText, a_kind, a_val, a_stopOf, a_par, a_ipos, a_prim, a_stack, a_occ, a_base, a_rbuf, a_tbuf, a_svT, a_hist) x0 := by
  subst e0
  intro x ex
  rw [sn_mu d 170 rfl, Nat.mul_comm] at ex
  subst ex
  have L189 : ∀ ty tl : Nat → Int32, (∀ t, t ≤ 9 → ty t = a_hist (170 * d + 70 + t)) → (∀ t, t ≤ 9 → tl t = a_hist (170 * d + 80 + t)) →
      ∃ n, wY_restore_189 post (nI (170 * d)) f_cap f_hcap (a_hist (170 * d + 64)) (a_hist (170 * d + 65)) (a_hist (170 * d + 66)) f_bodyLen f_sBodyLen f_merge (a_hist (170 * d + 67)) (a_hist (170 * d + 69)) (a_hist (170 * d + 68)) f_nItems f_finalIdx f_fromStruct f_baseLen f_baseP f_rlen f_tlen f_clearAll f_svF f_svL f_hCount n 0 (sn_cp a_hist (170 * d) a_buf 0 64) a_body a_sBody ty tl a_tText a_kind a_val a_stopOf a_par a_ipos a_prim a_stack a_occ a_base a_rbuf a_tbuf a_svT a_hist := by
    intro ty tl h1 h2
    have go : ∀ m k n, k + m = 80 → m < n → wY_restore_189 post (nI (170 * d)) f_cap f_hcap (a_hist (170 * d + 64)) (a_hist (170 * d + 65)) (a_hist (170 * d + 66)) f_bodyLen f_sBodyLen f_merge (a_hist (170 * d + 67)) (a_hist (170 * d + 69)) (a_hist (170 * d + 68)) f_nItems f_finalIdx f_fromStruct f_baseLen f_baseP f_rlen f_tlen f_clearAll f_svF f_svL f_hCount n (nI k) (sn_cp a_hist (170 * d) a_buf 0 64) a_body a_sBody ty tl (sn_cp a_hist (170 * d + 90) a_tText 0 k) a_kind a_val a_stopOf a_par a_ipos a_prim a_stack a_occ a_base a_rbuf a_tbuf a_svT a_hist := by
      intro m
      induction m with
      | zero =>
        intro k n hi hn
        obtain ⟨n, rfl⟩ : ∃ k, n = k + 1 := ⟨n - 1, by omega⟩
        obtain rfl : k = 80 := by omega
        exact br_t (by decide) (h ty tl h1 h2)
      | succ m ih =>
        intro k n hi hn
        obtain ⟨n, rfl⟩ : ∃ k, n = k + 1 := ⟨n - 1, by omega⟩
        have ix : nI (170 * d) + 90 + nI k = nI (170 * d + 90 + k) := sn_ad _ _ (sn_ad _ 90 rfl) rfl
        refine br_f (nI_ge (a := k) (b := 80) (by omega) (by omega)) ?_
        rw [ix]
        refine ⟨vp_in_nI (by omega) (by omega), vp_in_nI (by omega) (by omega), fun y ey z ez => ?_⟩
        have q := sn_cpS a_hist (170 * d + 90) a_tText 0 k
        rw [Nat.zero_add] at q
        rw [nI_clamp (by omega), nI_clamp (by omega), q] at ey
        rw [ey, ez, nI_1]
        exact ih (k + 1) n (by omega) (by omega)
    have w := go 80 0 81 (by omega) (by omega)
    rw [sn_cp0] at w
    exact ⟨_, w⟩
  have L132 : ∃ n, wY_restore_132 post (nI (170 * d)) f_cap f_hcap (a_hist (170 * d + 64)) (a_hist (170 * d + 65)) (a_hist (170 * d + 66)) f_bodyLen f_sBodyLen f_merge (a_hist (170 * d + 67)) (a_hist (170 * d + 69)) (a_hist (170 * d + 68)) f_nItems f_finalIdx f_fromStruct f_baseLen f_baseP f_rlen f_tlen f_clearAll f_svF f_svL f_hCount n 0 (sn_cp a_hist (170 * d) a_buf 0 64) a_body a_sBody a_typed a_tLen a_tText a_kind a_val a_stopOf a_par a_ipos a_prim a_stack a_occ a_base a_rbuf a_tbuf a_svT a_hist := by
    have go : ∀ m k n (ty tl : Nat → Int32), k + m = 10 → m < n → (∀ t, t < k → ty t = a_hist (170 * d + 70 + t)) → (∀ t, t < k → tl t = a_hist (170 * d + 80 + t)) →
        wY_restore_132 post (nI (170 * d)) f_cap f_hcap (a_hist (170 * d + 64)) (a_hist (170 * d + 65)) (a_hist (170 * d + 66)) f_bodyLen f_sBodyLen f_merge (a_hist (170 * d + 67)) (a_hist (170 * d + 69)) (a_hist (170 * d + 68)) f_nItems f_finalIdx f_fromStruct f_baseLen f_baseP f_rlen f_tlen f_clearAll f_svF f_svL f_hCount n (nI k) (sn_cp a_hist (170 * d) a_buf 0 64) a_body a_sBody ty tl a_tText a_kind a_val a_stopOf a_par a_ipos a_prim a_stack a_occ a_base a_rbuf a_tbuf a_svT a_hist := by
      intro m
      induction m with
      | zero =>
        intro k n ty tl hi hn h1 h2
        obtain ⟨n, rfl⟩ : ∃ k, n = k + 1 := ⟨n - 1, by omega⟩
        obtain rfl : k = 10 := by omega
        exact br_t (by decide) (L189 ty tl (fun t ht => h1 t (by omega)) (fun t ht => h2 t (by omega)))
      | succ m ih =>
        intro k n ty tl hi hn h1 h2
        obtain ⟨n, rfl⟩ : ∃ k, n = k + 1 := ⟨n - 1, by omega⟩
        have ix : nI (170 * d) + 70 + nI k = nI (170 * d + 70 + k) := sn_ad _ _ (sn_ad _ 70 rfl) rfl
        have iy : nI (170 * d) + 80 + nI k = nI (170 * d + 80 + k) := sn_ad _ _ (sn_ad _ 80 rfl) rfl
        have v10 : vp_in (nI k) 10 := vp_in_nI (by omega) (by omega)
        have J : ∀ z : Int32, z = a_hist (170 * d + 70 + k) → vp_nar .boolean z = z → wY_restore_163 post (wY_restore_132 post (nI (170 * d)) f_cap f_hcap (a_hist (170 * d + 64)) (a_hist (170 * d + 65)) (a_hist (170 * d + 66)) f_bodyLen f_sBodyLen f_merge (a_hist (170 * d + 67)) (a_hist (170 * d + 69)) (a_hist (170 * d + 68)) f_nItems f_finalIdx f_fromStruct f_baseLen f_baseP f_rlen f_tlen f_clearAll f_svF f_svL f_hCount n) (nI (170 * d)) (nI k) z (nI k) f_cap f_hcap (a_hist (170 * d + 64)) (a_hist (170 * d + 65)) (a_hist (170 * d + 66)) f_bodyLen f_sBodyLen f_merge (a_hist (170 * d + 67)) (a_hist (170 * d + 69)) (a_hist (170 * d + 68)) f_nItems f_finalIdx f_fromStruct f_baseLen f_baseP f_rlen f_tlen f_clearAll f_svF f_svL f_hCount (sn_cp a_hist (170 * d) a_buf 0 64) a_body a_sBody ty tl a_tText a_kind a_val a_stopOf a_par a_ipos a_prim a_stack a_occ a_base a_rbuf a_tbuf a_svT a_hist := by
          intro z ez en
          refine ⟨v10, fun y ey => ?_⟩
          rw [iy]
          refine ⟨vp_in_nI (by omega) (by omega), v10, fun u eu w ew => ?_⟩
          rw [nI_clamp (by omega), en, ez] at ey
          rw [nI_clamp (by omega), nI_clamp (by omega)] at eu
          rw [ew, nI_1, eu, ey]
          refine ih (k + 1) n _ _ (by omega) (by omega) (fun t ht => ?_) (fun t ht => ?_)
          · by_cases e : t = k
            · rw [e, pk_us]
            · rw [pk_un e]; exact h1 t (by omega)
          · by_cases e : t = k
            · rw [e, pk_us]
            · rw [pk_un e]; exact h2 t (by omega)
        refine br_f (nI_ge (a := k) (b := 10) (by omega) (by omega)) ?_
        rw [ix]
        refine ⟨vp_in_nI (by omega) (by omega), ?_⟩
        rw [nI_clamp (show 170 * d + 70 + k < 2 ^ 31 by omega)]
        rcases hb k (by omega) with b | b
        · exact br_f (by rw [b]; decide) (J 0 b.symm sn_nar0)
        · exact br_t b (J 1 b.symm sn_nar1)
    exact ⟨_, go 10 0 11 _ _ (by omega) (by omega) (fun t ht => absurd ht (by omega)) (fun t ht => absurd ht (by omega))⟩
  have c4 : (nI (170 * d) + 64).toNatClampNeg = 170 * d + 64 := pk_cl _ (sn_ad _ 64 rfl)
  have c5 : (nI (170 * d) + 65).toNatClampNeg = 170 * d + 65 := pk_cl _ (sn_ad _ 65 rfl)
  have c6 : (nI (170 * d) + 66).toNatClampNeg = 170 * d + 66 := pk_cl _ (sn_ad _ 66 rfl)
  have c7 : (nI (170 * d) + 67).toNatClampNeg = 170 * d + 67 := pk_cl _ (sn_ad _ 67 rfl)
  have c8 : (nI (170 * d) + 68).toNatClampNeg = 170 * d + 68 := pk_cl _ (sn_ad _ 68 rfl)
  have c9 : (nI (170 * d) + 69).toNatClampNeg = 170 * d + 69 := pk_cl _ (sn_ad _ 69 rfl)
  have go : ∀ m k n, k + m = 64 → m < n → wY_restore_8 post (nI (170 * d)) f_cap f_hcap f_len f_caret f_sel f_bodyLen f_sBodyLen f_merge f_session f_selected f_active f_nItems f_finalIdx f_fromStruct f_baseLen f_baseP f_rlen f_tlen f_clearAll f_svF f_svL f_hCount n (nI k) (sn_cp a_hist (170 * d) a_buf 0 k) a_body a_sBody a_typed a_tLen a_tText a_kind a_val a_stopOf a_par a_ipos a_prim a_stack a_occ a_base a_rbuf a_tbuf a_svT a_hist := by
    intro m
    induction m with
    | zero =>
      intro k n hi hn
      obtain ⟨n, rfl⟩ : ∃ k, n = k + 1 := ⟨n - 1, by omega⟩
      obtain rfl : k = 64 := by omega
      refine br_t (by decide) ⟨pk_in (170 * d + 64) 2720 (by omega) (sn_ad _ 64 rfl), ?_⟩
      intro y1 e1
      refine ⟨pk_in (170 * d + 65) 2720 (by omega) (sn_ad _ 65 rfl), ?_⟩
      intro y2 e2
      refine ⟨pk_in (170 * d + 66) 2720 (by omega) (sn_ad _ 66 rfl), ?_⟩
      intro y3 e3
      refine ⟨pk_in (170 * d + 67) 2720 (by omega) (sn_ad _ 67 rfl), ?_⟩
      rw [c4] at e1
      rw [c5] at e2
      rw [c6] at e3
      subst e1 e2 e3
      rw [c7]
      have J2 : ∀ z : Int32, z = a_hist (170 * d + 67) → sn_b1 z → wY_restore_92 post (nI (170 * d)) z f_cap f_hcap (a_hist (170 * d + 64)) (a_hist (170 * d + 65)) (a_hist (170 * d + 66)) f_bodyLen f_sBodyLen f_merge f_session f_selected f_active f_nItems f_finalIdx f_fromStruct f_baseLen f_baseP f_rlen f_tlen f_clearAll f_svF f_svL f_hCount (sn_cp a_hist (170 * d) a_buf 0 64) a_body a_sBody a_typed a_tLen a_tText a_kind a_val a_stopOf a_par a_ipos a_prim a_stack a_occ a_base a_rbuf a_tbuf a_svT a_hist := by
        intro z ez hz
        refine ⟨?_, ?_, pk_in (170 * d + 68) 2720 (by omega) (sn_ad _ 68 rfl), ?_⟩
        · rcases hz with b | b <;> rw [b] <;> rfl
        · rcases hz with b | b <;> rw [b] <;> rfl
        · intro y4 e4
          refine ⟨pk_in (170 * d + 69) 2720 (by omega) (sn_ad _ 69 rfl), ?_⟩
          rw [c8] at e4
          subst e4 ez
          rw [c9]
          rcases hb2 with b | b
          · rw [b] at L132
            exact br_f (by rw [b]; decide) L132
          · rw [b] at L132
            exact br_t b L132
      rcases hb1 with b | b
      · exact br_f (by rw [b]; decide) (J2 0 b.symm (Or.inl rfl))
      · exact br_t b (J2 1 b.symm (Or.inr rfl))
    | succ m ih =>
      intro k n hi hn
      obtain ⟨n, rfl⟩ : ∃ k, n = k + 1 := ⟨n - 1, by omega⟩
      refine br_f (nI_ge (a := k) (b := 64) (by omega) (by omega)) ?_
      rw [nI_add]
      refine ⟨vp_in_nI (by omega) (by omega), vp_in_nI (by omega) (by omega), fun y ey z ez => ?_⟩
      have q := sn_cpS a_hist (170 * d) a_buf 0 k
      rw [Nat.zero_add] at q
      rw [nI_clamp (by omega), nI_clamp (by omega), q] at ey
      rw [ey, ez, nI_1]
      exact ih (k + 1) n (by omega) (by omega)
  have w := go 64 0 65 (by omega) (by omega)
  rw [sn_cp0] at w
  exact ⟨_, w⟩
end SNU
