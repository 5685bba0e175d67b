section SNR
/-! Y: hidden, primText -/
variable {K S oa ca sg dp pa st : Nat → Nat} {V L : Nat → Int32} {c : Nat}
/-- what counts as typed -/
def sn_YT (ca' : Int32) (ty tl L : Nat → Int32) : Prop := ∀ s, s ≤ 9 → (L s = -1 ∧ (ca' ≠ 0 ∨ ty s = 0)) ∨ (∃ m : Nat, m ≤ 8 ∧ L s = nI m ∧ ca' = 0 ∧ ty s ≠ 0 ∧ tl s = nI m)
theorem sn_YTL {x : Int32} {ty tl : Nat → Int32} (h : sn_YT x ty tl L) : sn_LL L := by
  intro s hs
  rcases h s hs with a | ⟨m, hm, e, _⟩
  · exact Or.inl a.1
  · exact Or.inr ⟨m, hm, e⟩
theorem sn_sgE (P : sn_PI c 0 st K V S oa ca sg dp pa) {x y : Nat} (hx : x < c) (hy : y < c) (kx : K x ≠ 2) (ky : K y ≠ 2) (e : sg x = sg y) : x = y := by
  by_cases h : x < y
  · have := sn_sgS P.2.1 h (by omega) kx
    omega
  · by_cases h2 : y < x
    · have := sn_sgS P.2.1 h2 (by omega) ky
      omega
    · omega
theorem sn_yp0 {p : Nat} (h : p = 0) : sn_yp sg oa p = -1 := if_pos h
theorem sn_yp1 {p : Nat} (h : p ≠ 0) : sn_yp sg oa p = nI (sg (oa p)) := if_neg h
variable {f_cap f_hcap f_len f_caret f_sel f_bodyLen f_sBodyLen f_merge f_session f_selected f_active f_nItems f_finalIdx f_fromStruct f_baseLen f_baseP f_rlen f_tlen f_clearAll f_svF f_svL f_hCount : Int32} {a_buf a_body a_sBody a_typed a_tLen a_tText a_kind a_val a_stopOf a_par a_ipos a_prim a_stack a_occ a_base a_rbuf a_tbuf a_svT a_hist : Nat → Int32}
theorem sn_yisT {post : Int32 → Prop} {x0 : Int32} (T : sn_YT f_clearAll a_typed a_tLen L) (s : Nat) (e0 : x0 = nI s) (hs : s ≤ 9) (h1 : L s ≠ -1 → post 1) (h0 : L s = -1 → post 0) : wpY_isT post (f_cap, f_hcap, f_len, f_caret, f_sel, f_bodyLen, f_sBodyLen, f_merge, f_session, f_selected, f_active, f_nItems, f_finalIdx, f_fromStruct, f_baseLen, f_baseP, f_rlen, f_tlen, f_clearAll, f_svF, f_svL, f_hCount, a_buf, a_body, a_sBody, a_typed, a_tLen, a_tText, a_kind, a_val, a_stopOf, a_par, a_ipos, a_prim, a_stack, a_occ, a_base, a_rbuf, a_tbuf, a_svT, a_hist) x0 := by
  subst e0
  rcases T s hs with ⟨a, b⟩ | ⟨m, hm, a, b, d, _⟩
  · by_cases z : f_clearAll = 0
    · refine br_t z (br_f (nI_pos (by omega)) (br_f (nI_ge (a := s) (b := 10) (by omega) (by omega)) ⟨vp_in_nI (by omega) (by omega), ?_⟩))
      rw [nI_clamp (by omega)]
      exact br_t (b.resolve_left (fun y => y z)) (h0 a)
    · exact br_f z (h0 a)
  · refine br_t b (br_f (nI_pos (by omega)) (br_f (nI_ge (a := s) (b := 10) (by omega) (by omega)) ⟨vp_in_nI (by omega) (by omega), ?_⟩))
    rw [nI_clamp (by omega)]
    exact br_f d (h1 (by rw [a]; exact sn_nm1 (by omega)))
theorem sn_yhl {post : Int32 → Prop} (P : sn_PI c 0 st K V S oa ca sg dp pa) (hc : c ≤ 65) (Y : sn_YS c K V S oa sg pa f_nItems f_finalIdx a_kind a_val a_stopOf a_par a_prim) (T : sn_YT f_clearAll a_typed a_tLen L) {f : Nat} {top : Int32} :
    ∀ m x j n, dp x = m → x < c → K x ≠ 2 → j + m ≤ 4 → m < n → ((f = 0 ∧ top = -1) ∨ (∃ s, 1 ≤ s ∧ oa s < c ∧ f = oa s + 1 ∧ top = nI (sg (oa s)) ∧ sn_enc oa ca s x)) → (sn_hid oa ca L f x → post 1) → (¬ sn_hid oa ca L f x → post 0) →
      wY_hidden_10 post top f_cap f_hcap f_len f_caret f_sel f_bodyLen f_sBodyLen f_merge f_session f_selected f_active f_nItems f_finalIdx f_fromStruct f_baseLen f_baseP f_rlen f_tlen f_clearAll f_svF f_svL f_hCount a_buf a_body a_sBody a_typed a_tLen a_tText a_kind a_val a_stopOf a_par a_ipos a_prim a_stack a_occ a_base a_rbuf a_tbuf a_svT a_hist n (sn_yp sg oa (pa x)) (nI j) := by
  intro m
  induction m with
  | zero =>
    intro x j n hd hx hk hj hn ht h1 h0
    obtain ⟨n, rfl⟩ : ∃ k, n = k + 1 := ⟨n - 1, by omega⟩
    rcases sn_ch P L hx hk with ⟨p0, nh, _⟩ | ⟨_, _, _, _, a5, _⟩
    · rw [sn_yp0 p0]
      exact br_f (fun y => absurd ((nI_ltI (a := 4) (b := j) (by omega) (by omega)).mp y) (by omega)) (br_t (by decide) (h0 (nh f)))
    · omega
  | succ m ih =>
    intro x j n hd hx hk hj hn ht h1 h0
    obtain ⟨n, rfl⟩ : ∃ k, n = k + 1 := ⟨n - 1, by omega⟩
    refine br_f (fun y => absurd ((nI_ltI (a := 4) (b := j) (by omega) (by omega)).mp y) (by omega)) ?_
    rcases sn_ch P L hx hk with ⟨p0, nh, _⟩ | ⟨a1, a2, a3, a4, a5, a6, a7, a8, a9, a10⟩
    · rw [sn_yp0 p0]
      exact br_t (by decide) (h0 (nh f))
    · have sx := sn_sgx P.2.1 (show oa (pa x) ≤ c by omega)
      rw [sn_yp1 (by omega)]
      refine br_f (nI_pos (by omega)) ?_
      have ys := Y.2.1 (oa (pa x)) (by omega) (by omega)
      have rest : (f ≤ oa (pa x)) → ((f = 0 ∧ top = -1) ∨ (∃ s, 1 ≤ s ∧ oa s < c ∧ f = oa s + 1 ∧ top = nI (sg (oa s)) ∧ sn_enc oa ca s (oa (pa x)))) → vp_in (nI (sg (oa (pa x)))) 72 ∧ wpY_isT (fun r => ((r = 0 → (vp_in (nI (sg (oa (pa x)))) 72 ∧ (∀ x3_51 : Int32, x3_51 = a_par (nI (sg (oa (pa x)))).toNatClampNeg → (∀ x4_52 : Int32, x4_52 = nI j + 1 → (wY_hidden_10 post top f_cap f_hcap f_len f_caret f_sel f_bodyLen f_sBodyLen f_merge f_session f_selected f_active f_nItems f_finalIdx f_fromStruct f_baseLen f_baseP f_rlen f_tlen f_clearAll f_svF f_svL f_hCount a_buf a_body a_sBody a_typed a_tLen a_tText a_kind a_val a_stopOf a_par a_ipos a_prim a_stack a_occ a_base a_rbuf a_tbuf a_svT a_hist n x3_51 x4_52))))) ∧ (¬ r = 0 → (post 1)))) (f_cap, f_hcap, f_len, f_caret, f_sel, f_bodyLen, f_sBodyLen, f_merge, f_session, f_selected, f_active, f_nItems, f_finalIdx, f_fromStruct, f_baseLen, f_baseP, f_rlen, f_tlen, f_clearAll, f_svF, f_svL, f_hCount, a_buf, a_body, a_sBody, a_typed, a_tLen, a_tText, a_kind, a_val, a_stopOf, a_par, a_ipos, a_prim, a_stack, a_occ, a_base, a_rbuf, a_tbuf, a_svT, a_hist) (a_stopOf (nI (sg (oa (pa x)))).toNatClampNeg) := by
        intro hf ht'
        have v72 : vp_in (nI (sg (oa (pa x)))) 72 := vp_in_nI (by omega) (by omega)
        refine ⟨v72, ?_⟩
        rw [nI_clamp (show sg (oa (pa x)) < 2 ^ 31 by omega), ys.1, a8]
        refine sn_yisT T (pa x) rfl a2 (fun z => ?_) (fun z => ?_)
        · exact br_f (by decide) (h1 ((a9 f).mpr ⟨hf, Or.inl z⟩))
        · refine br_t rfl ⟨v72, fun y ey w ew => ?_⟩
          rw [ey, ew, ys.2.1, nI_1]
          refine ih (oa (pa x)) (j + 1) n (by omega) (by omega) (by omega) (by omega) (by omega) ht' (fun y => h1 ((a9 f).mpr ⟨hf, Or.inr y⟩)) (fun y => h0 (fun w => ?_))
          rcases ((a9 f).mp w).2 with u | u
          · exact u z
          · exact y u
      rcases ht with ⟨f0, t0⟩ | ⟨s, s1, s2, s3, s4, s5⟩
      · refine br_f (by rw [t0]; exact sn_nm1 (by omega)) (rest (by omega) (Or.inl ⟨f0, t0⟩))
      · have ks : K (oa s) = 1 ∧ S (oa s) = s := by
          have h0 := P.1
          rcases sn_clo P s with b | b | b
          · omega
          · omega
          · exact ⟨b.2.2.2.2.1, b.2.2.2.2.2.1⟩
        by_cases e : pa x = s
        · refine br_t (by rw [e, s4]) (h0 (fun w => ?_))
          have := ((a9 f).mp w).1
          rw [e] at this
          omega
        · have en : sn_enc oa ca s (oa (pa x)) := (a10 s s5).resolve_left (fun z => e z.symm)
          have en1 := en.1
          refine br_f (fun y => ?_) (rest (by omega) (Or.inr ⟨s, s1, s2, s3, s4, en⟩))
          rw [s4] at y
          have sy := sn_sgx P.2.1 (show oa s ≤ c by omega)
          have e2 := (nI_eq (by omega) (by omega)).mp y
          have e3 := sn_sgE P (by omega) s2 (by omega) (by omega) e2
          omega
theorem sn_yhid {post : Int32 → Prop} {x0 top : Int32} (P : sn_PI c 0 st K V S oa ca sg dp pa) (hc : c ≤ 65) (Y : sn_YS c K V S oa sg pa f_nItems f_finalIdx a_kind a_val a_stopOf a_par a_prim) (T : sn_YT f_clearAll a_typed a_tLen L) (f x : Nat) (e0 : x0 = nI (sg x)) (hx : x < c) (hk : K x ≠ 2)
    (ht : (f = 0 ∧ top = -1) ∨ (∃ s, 1 ≤ s ∧ oa s < c ∧ f = oa s + 1 ∧ top = nI (sg (oa s)) ∧ sn_enc oa ca s x)) (h1 : sn_hid oa ca L f x → post 1) (h0 : ¬ sn_hid oa ca L f x → post 0) : wpY_hidden post (f_cap, f_hcap, f_len, f_caret, f_sel, f_bodyLen, f_sBodyLen, f_merge, f_session, f_selected, f_active, f_nItems, f_finalIdx, f_fromStruct, f_baseLen, f_baseP, f_rlen, f_tlen, f_clearAll, f_svF, f_svL, f_hCount, a_buf, a_body, a_sBody, a_typed, a_tLen, a_tText, a_kind, a_val, a_stopOf, a_par, a_ipos, a_prim, a_stack, a_occ, a_base, a_rbuf, a_tbuf, a_svT, a_hist) x0 top := by
  subst e0
  have sx := sn_sgx P.2.1 (show x ≤ c by omega)
  have d4 : dp x ≤ 4 := by
    rcases P.2.2.2.2.2.2.2 x hx hk with a | a
    · omega
    · exact a.2.2.2.2.1
  refine ⟨vp_in_nI (by omega) (by omega), ?_⟩
  intro y ey
  rw [nI_clamp (by omega), (Y.2.1 x hx hk).2.1] at ey
  subst ey
  exact ⟨5, sn_yhl (post := post) (f := f) (top := top) P hc Y T (dp x) x 0 5 rfl hx hk (by omega) (by omega) ht h1 h0⟩
theorem sn_ytput {post : SY → Prop} {x : Int32} (l : List Int32) (A : sn_ag 160 a_tbuf l) (hl : l.length < 160) (h : ∀ tb, sn_ag 160 tb (l ++ [x]) → post (f_cap, f_hcap, f_len, f_caret, f_sel, f_bodyLen, f_sBodyLen, f_merge, f_session, f_selected, f_active, f_nItems, f_finalIdx, f_fromStruct, f_baseLen, f_baseP, f_rlen, nI (l ++ [x]).length, f_clearAll, f_svF, f_svL, f_hCount, a_buf, a_body, a_sBody, a_typed, a_tLen, a_tText, a_kind, a_val, a_stopOf, a_par, a_ipos, a_prim, a_stack, a_occ, a_base, a_rbuf, tb, a_svT, a_hist)) : wpY_tput post (f_cap, f_hcap, f_len, f_caret, f_sel, f_bodyLen, f_sBodyLen, f_merge, f_session, f_selected, f_active, f_nItems, f_finalIdx, f_fromStruct, f_baseLen, f_baseP, f_rlen, nI l.length, f_clearAll, f_svF, f_svL, f_hCount, a_buf, a_body, a_sBody, a_typed, a_tLen, a_tText, a_kind, a_val, a_stopOf, a_par, a_ipos, a_prim, a_stack, a_occ, a_base, a_rbuf, a_tbuf, a_svT, a_hist) x := by
  refine br_f (nI_ge (b := 160) (by omega) (by omega)) ⟨vp_in_nI hl (by omega), fun y ey z ez => ?_⟩
  rw [nI_clamp (by omega)] at ey
  rw [ez, nI_1, ← sn_len1 l x]
  exact h y (by rw [ey]; exact sn_agS A)
theorem sn_yrput {post : SY → Prop} {x : Int32} (l : List Int32) (A : sn_ag 64 a_rbuf l) (hl : l.length < 100000) (h : ∀ rb, sn_ag 64 rb (l ++ [x]) → post (f_cap, f_hcap, f_len, f_caret, f_sel, f_bodyLen, f_sBodyLen, f_merge, f_session, f_selected, f_active, f_nItems, f_finalIdx, f_fromStruct, f_baseLen, f_baseP, nI (l ++ [x]).length, f_tlen, f_clearAll, f_svF, f_svL, f_hCount, a_buf, a_body, a_sBody, a_typed, a_tLen, a_tText, a_kind, a_val, a_stopOf, a_par, a_ipos, a_prim, a_stack, a_occ, a_base, rb, a_tbuf, a_svT, a_hist)) : wpY_rput post (f_cap, f_hcap, f_len, f_caret, f_sel, f_bodyLen, f_sBodyLen, f_merge, f_session, f_selected, f_active, f_nItems, f_finalIdx, f_fromStruct, f_baseLen, f_baseP, nI l.length, f_tlen, f_clearAll, f_svF, f_svL, f_hCount, a_buf, a_body, a_sBody, a_typed, a_tLen, a_tText, a_kind, a_val, a_stopOf, a_par, a_ipos, a_prim, a_stack, a_occ, a_base, a_rbuf, a_tbuf, a_svT, a_hist) x := by
  by_cases q : 64 ≤ l.length
  · refine br_t (nI_le (a := 64) q (by omega)) (fun z ez => ?_)
    rw [ez, nI_1, ← sn_len1 l x]
    exact h _ (sn_agN A q)
  · refine br_f (nI_ge (b := 64) (by omega) (by omega)) ⟨vp_in_nI (by omega) (by omega), fun y ey z ez => ?_⟩
    rw [nI_clamp (by omega)] at ey
    rw [ez, nI_1, ← sn_len1 l x]
    exact h y (by rw [ey]; exact sn_agS A)
theorem sn_ytypT {post : SY → Prop} {x0 : Int32} (s mm : Nat) (e0 : x0 = nI s) (hs : s ≤ 9) (em : a_tLen s = nI mm) (hm : mm ≤ 8) (l : List Int32) (A : sn_ag 160 a_tbuf l) (hl : l.length + mm ≤ 160)
    (h : ∀ tb, sn_ag 160 tb (l ++ sn_ls (fun k => a_tText (s * 8 + k)) mm) → post (f_cap, f_hcap, f_len, f_caret, f_sel, f_bodyLen, f_sBodyLen, f_merge, f_session, f_selected, f_active, f_nItems, f_finalIdx, f_fromStruct, f_baseLen, f_baseP, f_rlen, nI (l ++ sn_ls (fun k => a_tText (s * 8 + k)) mm).length, f_clearAll, f_svF, f_svL, f_hCount, a_buf, a_body, a_sBody, a_typed, a_tLen, a_tText, a_kind, a_val, a_stopOf, a_par, a_ipos, a_prim, a_stack, a_occ, a_base, a_rbuf, tb, a_svT, a_hist)) : wpY_typedT post (f_cap, f_hcap, f_len, f_caret, f_sel, f_bodyLen, f_sBodyLen, f_merge, f_session, f_selected, f_active, f_nItems, f_finalIdx, f_fromStruct, f_baseLen, f_baseP, f_rlen, nI l.length, f_clearAll, f_svF, f_svL, f_hCount, a_buf, a_body, a_sBody, a_typed, a_tLen, a_tText, a_kind, a_val, a_stopOf, a_par, a_ipos, a_prim, a_stack, a_occ, a_base, a_rbuf, a_tbuf, a_svT, a_hist) x0 := by
  subst e0
  have cs : (nI s).toNatClampNeg = s := nI_clamp (by omega)
  have v10 : vp_in (nI s) 10 := vp_in_nI (by omega) (by omega)
  have go : ∀ m k n tb, k + m = mm → m < n → sn_ag 160 tb (l ++ sn_ls (fun k => a_tText (s * 8 + k)) k) → wY_typedT_2 post (nI s) n (nI k) f_cap f_hcap f_len f_caret f_sel f_bodyLen f_sBodyLen f_merge f_session f_selected f_active f_nItems f_finalIdx f_fromStruct f_baseLen f_baseP f_rlen (nI (l ++ sn_ls (fun k => a_tText (s * 8 + k)) k).length) f_clearAll f_svF f_svL f_hCount a_buf a_body a_sBody a_typed a_tLen a_tText a_kind a_val a_stopOf a_par a_ipos a_prim a_stack a_occ a_base a_rbuf tb a_svT a_hist := by
    intro m
    induction m with
    | zero =>
      intro k n tb hi hn A
      obtain ⟨n, rfl⟩ : ∃ k, n = k + 1 := ⟨n - 1, by omega⟩
      obtain rfl : k = mm := by omega
      refine ⟨v10, ?_⟩
      rw [cs, em]
      exact br_t (nI_le (Nat.le_refl _) (by omega)) (h tb A)
    | succ m ih =>
      intro k n tb hi hn A
      obtain ⟨n, rfl⟩ : ∃ k, n = k + 1 := ⟨n - 1, by omega⟩
      refine ⟨v10, ?_⟩
      have ix : nI s * 8 + nI k = nI (s * 8 + k) := by rw [sn_mu s 8 rfl, nI_add]
      rw [cs, em, ix, nI_clamp (show s * 8 + k < 2 ^ 31 by omega)]
      refine br_f (nI_ge (by omega) (by omega)) (br_f (nI_ge (a := k) (b := 8) (by omega) (by omega)) ⟨vp_in_nI (by omega) (by omega), ?_⟩)
      refine sn_ytput _ A (by rw [List.length_append, sn_lsL]; omega) (fun tb' A' => ?_)
      intro y ey
      rw [List.append_assoc] at A'
      rw [ey, nI_1, List.append_assoc]
      exact ih (k + 1) n tb' (by omega) (by omega) A'
  have w := go mm 0 (mm + 1) a_tbuf (by omega) (by omega) (by rw [show sn_ls (fun k => a_tText (s * 8 + k)) 0 = [] from rfl, List.append_nil]; exact A)
  rw [show sn_ls (fun k => a_tText (s * 8 + k)) 0 = [] from rfl, List.append_nil] at w
  exact ⟨_, w⟩
theorem sn_ytypR {post : SY → Prop} {x0 : Int32} (s mm : Nat) (e0 : x0 = nI s) (hs : s ≤ 9) (em : a_tLen s = nI mm) (hm : mm ≤ 8) (l : List Int32) (A : sn_ag 64 a_rbuf l) (hl : l.length + mm ≤ 100000)
    (h : ∀ rb, sn_ag 64 rb (l ++ sn_ls (fun k => a_tText (s * 8 + k)) mm) → post (f_cap, f_hcap, f_len, f_caret, f_sel, f_bodyLen, f_sBodyLen, f_merge, f_session, f_selected, f_active, f_nItems, f_finalIdx, f_fromStruct, f_baseLen, f_baseP, nI (l ++ sn_ls (fun k => a_tText (s * 8 + k)) mm).length, f_tlen, f_clearAll, f_svF, f_svL, f_hCount, a_buf, a_body, a_sBody, a_typed, a_tLen, a_tText, a_kind, a_val, a_stopOf, a_par, a_ipos, a_prim, a_stack, a_occ, a_base, rb, a_tbuf, a_svT, a_hist)) : wpY_typedR post (f_cap, f_hcap, f_len, f_caret, f_sel, f_bodyLen, f_sBodyLen, f_merge, f_session, f_selected, f_active, f_nItems, f_finalIdx, f_fromStruct, f_baseLen, f_baseP, nI l.length, f_tlen, f_clearAll, f_svF, f_svL, f_hCount, a_buf, a_body, a_sBody, a_typed, a_tLen, a_tText, a_kind, a_val, a_stopOf, a_par, a_ipos, a_prim, a_stack, a_occ, a_base, a_rbuf, a_tbuf, a_svT, a_hist) x0 := by
  subst e0
  have cs : (nI s).toNatClampNeg = s := nI_clamp (by omega)
  have v10 : vp_in (nI s) 10 := vp_in_nI (by omega) (by omega)
  have go : ∀ m k n rb, k + m = mm → m < n → sn_ag 64 rb (l ++ sn_ls (fun k => a_tText (s * 8 + k)) k) → wY_typedR_2 post (nI s) n (nI k) f_cap f_hcap f_len f_caret f_sel f_bodyLen f_sBodyLen f_merge f_session f_selected f_active f_nItems f_finalIdx f_fromStruct f_baseLen f_baseP (nI (l ++ sn_ls (fun k => a_tText (s * 8 + k)) k).length) f_tlen f_clearAll f_svF f_svL f_hCount a_buf a_body a_sBody a_typed a_tLen a_tText a_kind a_val a_stopOf a_par a_ipos a_prim a_stack a_occ a_base rb a_tbuf a_svT a_hist := by
    intro m
    induction m with
    | zero =>
      intro k n rb hi hn A
      obtain ⟨n, rfl⟩ : ∃ k, n = k + 1 := ⟨n - 1, by omega⟩
      obtain rfl : k = mm := by omega
      refine ⟨v10, ?_⟩
      rw [cs, em]
      exact br_t (nI_le (Nat.le_refl _) (by omega)) (h rb A)
    | succ m ih =>
      intro k n rb hi hn A
      obtain ⟨n, rfl⟩ : ∃ k, n = k + 1 := ⟨n - 1, by omega⟩
      refine ⟨v10, ?_⟩
      have ix : nI s * 8 + nI k = nI (s * 8 + k) := by rw [sn_mu s 8 rfl, nI_add]
      rw [cs, em, ix, nI_clamp (show s * 8 + k < 2 ^ 31 by omega)]
      refine br_f (nI_ge (by omega) (by omega)) (br_f (nI_ge (a := k) (b := 8) (by omega) (by omega)) ⟨vp_in_nI (by omega) (by omega), ?_⟩)
      refine sn_yrput _ A (by rw [List.length_append, sn_lsL]; omega) (fun rb' A' => ?_)
      intro y ey
      rw [List.append_assoc] at A'
      rw [ey, nI_1, List.append_assoc]
      exact ih (k + 1) n rb' (by omega) (by omega) A'
  have w := go mm 0 (mm + 1) a_rbuf (by omega) (by omega) (by rw [show sn_ls (fun k => a_tText (s * 8 + k)) 0 = [] from rfl, List.append_nil]; exact A)
  rw [show sn_ls (fun k => a_tText (s * 8 + k)) 0 = [] from rfl, List.append_nil] at w
  exact ⟨_, w⟩
end SNR
