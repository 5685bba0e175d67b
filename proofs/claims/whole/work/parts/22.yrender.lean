section SNT
/-! Y: render, rebuild, positions -/
variable {K S oa ca sg dp pa st : Nat → Nat} {V L : Nat → Int32} {c : Nat}
def sn_IP (oa ca : Nat → Nat) (L : Nat → Int32) (K sg : Nat → Nat) (len : Nat → Nat) (x : Nat) (ip : Nat → Int32) : Prop := ∀ y, y < x → K y ≠ 2 → ¬ sn_hid oa ca L 0 y → ip (sg y) = nI (len y)
variable {f_cap f_hcap f_len f_caret f_sel f_bodyLen f_sBodyLen f_merge f_session f_selected f_active f_nItems f_finalIdx f_fromStruct f_baseLen f_baseP f_rlen f_tlen f_clearAll f_svF f_svL f_hCount : Int32} {a_buf a_body a_sBody a_typed a_tLen a_tText a_kind a_val a_stopOf a_par a_ipos a_prim a_stack a_occ a_base a_rbuf a_tbuf a_svT a_hist : Nat → Int32}
theorem sn_yrnl {post : SY → Prop} (P : sn_PI c 0 st K V S oa ca sg dp pa) (hc : c ≤ 65) (Y : sn_YS c K V S oa sg pa f_nItems f_finalIdx a_kind a_val a_stopOf a_par a_prim) (T : sn_YT f_clearAll a_typed a_tLen L)
    (h : ∀ rb tb tl ip, sn_ag 64 rb (sn_rr K V S oa ca L a_tText c) → sn_IP oa ca L K sg (fun y => (sn_rr K V S oa ca L a_tText y).length) c ip → post (f_cap, f_hcap, f_len, f_caret, f_sel, f_bodyLen, f_sBodyLen, f_merge, f_session, f_selected, f_active, f_nItems, f_finalIdx, f_fromStruct, f_baseLen, f_baseP, nI (sn_rr K V S oa ca L a_tText c).length, tl, f_clearAll, f_svF, f_svL, f_hCount, a_buf, a_body, a_sBody, a_typed, a_tLen, a_tText, a_kind, a_val, a_stopOf, a_par, ip, a_prim, a_stack, a_occ, a_base, rb, tb, a_svT, a_hist)) :
    ∀ m x n rb tb tl ip, x + m = c → m < n → sn_ag 64 rb (sn_rr K V S oa ca L a_tText x) → sn_IP oa ca L K sg (fun y => (sn_rr K V S oa ca L a_tText y).length) x ip →
      wY_render_7 post n (nI (sg x)) f_cap f_hcap f_len f_caret f_sel f_bodyLen f_sBodyLen f_merge f_session f_selected f_active f_nItems f_finalIdx f_fromStruct f_baseLen f_baseP (nI (sn_rr K V S oa ca L a_tText x).length) tl f_clearAll f_svF f_svL f_hCount a_buf a_body a_sBody a_typed a_tLen a_tText a_kind a_val a_stopOf a_par ip a_prim a_stack a_occ a_base rb tb a_svT a_hist := by
  have c0 := P.1
  have sc := sn_sgx P.2.1 (Nat.le_refl c)
  have L8 := sn_LL8 (sn_YTL T)
  intro m
  induction m with
  | zero =>
    intro x n rb tb tl ip hx hn A I
    obtain ⟨n, rfl⟩ : ∃ k, n = k + 1 := ⟨n - 1, by omega⟩
    obtain rfl : x = c := by omega
    exact br_t (by rw [Y.1]; exact nI_le (Nat.le_refl _) (by omega)) (h rb tb tl ip A I)
  | succ m ih =>
    intro x n rb tb tl ip hx hn A I
    have hxc : x < c := by omega
    by_cases k2 : K x = 2
    · have w := ih (x + 1) n rb tb tl ip (by omega) (by omega) (by rw [sn_rr2 k2]; exact A) (fun y hy ky nh => by
        by_cases e : y = x
        · rw [e] at ky; exact absurd k2 ky
        · exact I y (by omega) ky nh)
      rw [sn_rr2 k2, sn_sg2 P.2.1 hxc k2] at w
      exact w
    · obtain ⟨n, rfl⟩ : ∃ k, n = k + 1 := ⟨n - 1, by omega⟩
      have lb := sn_rrB' (V := V) (L := L) (T := a_tText) (x := x + 1) P hc L8 (by omega)
      have sx := sn_sgx P.2.1 (show x ≤ c by omega)
      have lt := sn_sgS P.2.1 hxc (Nat.le_refl c) k2
      have v72 : vp_in (nI (sg x)) 72 := vp_in_nI (by omega) (by omega)
      have cx : (nI (sg x)).toNatClampNeg = sg x := nI_clamp (by omega)
      have ys := Y.2.1 x hxc k2
      have nxt : ∀ rb' tb' tl' ip', sn_ag 64 rb' (sn_rr K V S oa ca L a_tText (x + 1)) → sn_IP oa ca L K sg (fun y => (sn_rr K V S oa ca L a_tText y).length) (x + 1) ip' → ∀ y : Int32, y = nI (sg x) + 1 → wY_render_7 post n y f_cap f_hcap f_len f_caret f_sel f_bodyLen f_sBodyLen f_merge f_session f_selected f_active f_nItems f_finalIdx f_fromStruct f_baseLen f_baseP (nI (sn_rr K V S oa ca L a_tText (x + 1)).length) tl' f_clearAll f_svF f_svL f_hCount a_buf a_body a_sBody a_typed a_tLen a_tText a_kind a_val a_stopOf a_par ip' a_prim a_stack a_occ a_base rb' tb' a_svT a_hist := by
        intro rb' tb' tl' ip' A' I' y ey
        have w := ih (x + 1) n rb' tb' tl' ip' (by omega) (by omega) A' I'
        rw [sn_sg1 P.2.1 hxc k2] at w
        rw [ey, nI_1]; exact w
      have sl : ∀ y, y < x → K y ≠ 2 → sg y ≠ sg x := fun y hy ky => by
        have := sn_sgS P.2.1 hy (by omega) ky
        omega
      refine br_f (by rw [Y.1]; exact nI_ge lt (by omega)) ⟨v72, fun ip1 e1 => ?_⟩
      rw [cx] at e1
      subst e1
      refine sn_yhid P hc Y T 0 x rfl hxc k2 (Or.inl ⟨rfl, rfl⟩) (fun z => ?_) (fun z => ?_)
      · have k4 : ¬ 4 ≤ K x := fun w => sn_mirH (L := L) (f := 0) P hxc (by omega) z
        have er : sn_rr K V S oa ca L a_tText (x + 1) = sn_rr K V S oa ca L a_tText x := by
          rw [sn_rr, if_neg k4, sn_outH z, List.append_nil]
        rw [er] at nxt
        refine br_f (by decide) (nxt rb tb tl _ A (fun y hy ky nh => ?_))
        by_cases e : y = x
        · rw [e] at nh; exact absurd z nh
        · rw [pk_un (sl y (by omega) ky)]; exact I y (by omega) ky nh
      · refine br_t rfl ⟨v72, fun ip2 e2 => ⟨v72, fun k ek => ?_⟩⟩
        rw [cx] at e2 ek
        subst e2 ek
        have I2 : sn_IP oa ca L K sg (fun y => (sn_rr K V S oa ca L a_tText y).length) (x + 1) (upd (upd ip (sg x) (-1)) (sg x) (nI (sn_rr K V S oa ca L a_tText x).length)) := by
          intro y hy ky nh
          by_cases e : y = x
          · rw [e, pk_us]
          · rw [pk_un (sl y (by omega) ky), pk_un (sl y (by omega) ky)]; exact I y (by omega) ky nh
        by_cases k0 : K x = 0
        · have kv := ys.2.2.1 k0
          have er : sn_rr K V S oa ca L a_tText (x + 1) = sn_rr K V S oa ca L a_tText x ++ [V x] := by
            rw [sn_rr, if_neg (by omega), sn_out0 z k0]
          rw [er] at nxt lb
          rw [sn_len1] at lb
          refine br_t kv.1 ⟨v72, ?_⟩
          rw [cx, kv.2]
          exact sn_yrput _ A (by omega) (fun rb' A' => nxt rb' tb tl _ A' I2)
        · by_cases k1 : K x = 1
          · have qx : 1 ≤ S x ∧ S x ≤ 9 := by
              rcases P.2.2.2.2.1 x hxc with a | a | a | a | a <;> omega
            have kk := ys.2.2.2.1 k1
            have J : wY_render_78 post (wY_render_7 post n) (nI (sg x)) (a_kind (sg x)) f_cap f_hcap f_len f_caret f_sel f_bodyLen f_sBodyLen f_merge f_session f_selected f_active f_nItems f_finalIdx f_fromStruct f_baseLen f_baseP (nI (sn_rr K V S oa ca L a_tText x).length) tl f_clearAll f_svF f_svL f_hCount a_buf a_body a_sBody a_typed a_tLen a_tText a_kind a_val a_stopOf a_par (upd (upd ip (sg x) (-1)) (sg x) (nI (sn_rr K V S oa ca L a_tText x).length)) a_prim a_stack a_occ a_base rb tb a_svT a_hist := by
              refine ⟨v72, ?_⟩
              rw [cx, ys.1]
              refine sn_yisT T (S x) rfl qx.2 (fun l1 => ?_) (fun l1 => ?_)
              · refine br_f (by decide) ⟨v72, ?_⟩
                rcases T (S x) qx.2 with b | ⟨mm, hm, b1, b2, b3, b4⟩
                · exact absurd b.1 l1
                · have er : sn_rr K V S oa ca L a_tText (x + 1) = sn_rr K V S oa ca L a_tText x ++ sn_ls (fun k => a_tText (S x * 8 + k)) mm := by
                    rw [sn_rr, if_neg (by omega), sn_out1 z k1 l1]; unfold sn_ty; rw [b1, nI_clamp (by omega)]
                  rw [er] at nxt lb
                  rw [List.length_append, sn_lsL] at lb
                  exact sn_ytypR (S x) mm rfl qx.2 b4 hm _ A (by omega) (fun rb' A' => nxt rb' tb tl _ A' I2)
              · have er : sn_rr K V S oa ca L a_tText (x + 1) = sn_rr K V S oa ca L a_tText x := by
                  rw [sn_rr, if_neg (by omega), sn_out2 k0 (fun w => w.2 l1), List.append_nil]
                rw [er] at nxt
                refine br_t rfl (br_f ?_ (nxt rb tb tl _ A I2))
                rcases kk with kk | kk <;> rw [kk] <;> decide
            rcases kk with kk | kk
            · exact br_f (by rw [kk]; decide) (br_f (by rw [kk]; decide) (br_t kk J))
            · exact br_f (by rw [kk]; decide) (br_t kk J)
          · by_cases k3 : K x = 3
            · have kk := ys.2.2.2.2.1 k3
              have er : sn_rr K V S oa ca L a_tText (x + 1) = sn_rr K V S oa ca L a_tText x := by
                rw [sn_rr, if_neg (by omega), sn_out2 k0 (fun w => k1 w.1), List.append_nil]
              rw [er] at nxt
              exact br_f (by rw [kk]; decide) (br_f (by rw [kk]; decide) (br_f (by rw [kk]; decide) (br_f (by rw [kk]; decide) (nxt rb tb tl _ A I2))))
            · have q : 4 ≤ K x ∧ K x ≤ 7 ∧ 1 ≤ S x ∧ S x ≤ 9 ∧ oa (S x) < c := by
                rcases P.2.2.2.2.1 x hxc with a | a | a | a | a <;> omega
              have kk := ys.2.2.2.2.2 q.1
              have er : sn_rr K V S oa ca L a_tText (x + 1) = sn_rr K V S oa ca L a_tText x ++ sn_tr (4 + (K x - 4)) (sn_pt K V S oa ca L a_tText (S x)) := by
                rw [sn_rr, if_pos q.1, show 4 + (K x - 4) = K x by omega]
              rw [er] at nxt lb
              rw [List.length_append] at lb
              refine br_f (by rw [kk.1]; decide) (br_f (by rw [kk.1]; decide) (br_f (by rw [kk.1]; decide) (br_t kk.1 ⟨v72, v72, ?_⟩)))
              rw [cx, ys.1, kk.2]
              exact sn_ymir P hc Y T (S x) (K x - 4) rfl rfl q.2.2.1 q.2.2.2.1 q.2.2.2.2 (by omega) _ A (by omega) (fun rb' tb' tl' A' => nxt rb' tb' tl' _ A' I2)
theorem sn_yrn {post : SY → Prop} (P : sn_PI c 0 st K V S oa ca sg dp pa) (hc : c ≤ 65) (Y : sn_YS c K V S oa sg pa f_nItems f_finalIdx a_kind a_val a_stopOf a_par a_prim) (T : sn_YT f_clearAll a_typed a_tLen L)
    (h : ∀ rb tb tl ip, sn_ag 64 rb (sn_rr K V S oa ca L a_tText c) → sn_IP oa ca L K sg (fun y => (sn_rr K V S oa ca L a_tText y).length) c ip → post (f_cap, f_hcap, f_len, f_caret, f_sel, f_bodyLen, f_sBodyLen, f_merge, f_session, f_selected, f_active, f_nItems, f_finalIdx, f_fromStruct, f_baseLen, f_baseP, nI (sn_rr K V S oa ca L a_tText c).length, tl, f_clearAll, f_svF, f_svL, f_hCount, a_buf, a_body, a_sBody, a_typed, a_tLen, a_tText, a_kind, a_val, a_stopOf, a_par, ip, a_prim, a_stack, a_occ, a_base, rb, tb, a_svT, a_hist)) : wpY_render post (f_cap, f_hcap, f_len, f_caret, f_sel, f_bodyLen, f_sBodyLen, f_merge, f_session, f_selected, f_active, f_nItems, f_finalIdx, f_fromStruct, f_baseLen, f_baseP, f_rlen, f_tlen, f_clearAll, f_svF, f_svL, f_hCount, a_buf, a_body, a_sBody, a_typed, a_tLen, a_tText, a_kind, a_val, a_stopOf, a_par, a_ipos, a_prim, a_stack, a_occ, a_base, a_rbuf, a_tbuf, a_svT, a_hist) := by
  have w := sn_yrnl (post := post) P hc Y T h c 0 (c + 1) a_rbuf a_tbuf f_tlen a_ipos (by omega) (by omega) sn_ag0 (fun y hy => absurd hy (by omega))
  rw [P.2.1.1] at w
  exact ⟨_, w⟩
theorem sn_ybput {post : SY → Prop} {x : Int32} {t : Nat → Int32} (l : List Int32) (hl : l.length < 64) (h : post (f_cap, f_hcap, nI (l ++ [x]).length, f_caret, f_sel, f_bodyLen, f_sBodyLen, f_merge, f_session, f_selected, f_active, f_nItems, f_finalIdx, f_fromStruct, f_baseLen, f_baseP, f_rlen, f_tlen, f_clearAll, f_svF, f_svL, f_hCount, sn_wr t 0 (l ++ [x]), a_body, a_sBody, a_typed, a_tLen, a_tText, a_kind, a_val, a_stopOf, a_par, a_ipos, a_prim, a_stack, a_occ, a_base, a_rbuf, a_tbuf, a_svT, a_hist)) : wpY_bput post (f_cap, f_hcap, nI l.length, f_caret, f_sel, f_bodyLen, f_sBodyLen, f_merge, f_session, f_selected, f_active, f_nItems, f_finalIdx, f_fromStruct, f_baseLen, f_baseP, f_rlen, f_tlen, f_clearAll, f_svF, f_svL, f_hCount, sn_wr t 0 l, a_body, a_sBody, a_typed, a_tLen, a_tText, a_kind, a_val, a_stopOf, a_par, a_ipos, a_prim, a_stack, a_occ, a_base, a_rbuf, a_tbuf, a_svT, a_hist) x := by
  refine br_f (nI_ge (b := 64) (by omega) (by omega)) ⟨vp_in_nI hl (by omega), fun y ey z ez => ?_⟩
  rw [nI_clamp (by omega), sn_wrS t 0 _ l x (by omega)] at ey
  rw [ey, ez, nI_1, ← sn_len1 l x]; exact h
theorem sn_yb78 {post : SY → Prop} {t : Nat → Int32} (bp bl : Nat) (hb : bp ≤ bl) (hb64 : bl ≤ 64) (l : List Int32) (hl : l.length + (bl - bp) ≤ 64)
    (h : post (f_cap, f_hcap, nI (l ++ sn_ls (fun k => a_base (bp + k)) (bl - bp)).length, f_caret, f_sel, f_bodyLen, f_sBodyLen, f_merge, f_session, f_selected, f_active, f_nItems, f_finalIdx, f_fromStruct, nI bl, f_baseP, f_rlen, f_tlen, f_clearAll, f_svF, f_svL, f_hCount, sn_wr t 0 (l ++ sn_ls (fun k => a_base (bp + k)) (bl - bp)), a_body, a_sBody, a_typed, a_tLen, a_tText, a_kind, a_val, a_stopOf, a_par, a_ipos, a_prim, a_stack, a_occ, a_base, a_rbuf, a_tbuf, a_svT, a_hist)) :
    ∃ n, wY_rebuild_78 post n (nI bp) f_cap f_hcap (nI l.length) f_caret f_sel f_bodyLen f_sBodyLen f_merge f_session f_selected f_active f_nItems f_finalIdx f_fromStruct (nI bl) f_baseP f_rlen f_tlen f_clearAll f_svF f_svL f_hCount (sn_wr t 0 l) a_body a_sBody a_typed a_tLen a_tText a_kind a_val a_stopOf a_par a_ipos a_prim a_stack a_occ a_base a_rbuf a_tbuf a_svT a_hist := by
  have go : ∀ m k n, bp + k + m = bl → m < n → wY_rebuild_78 post n (nI (bp + k)) f_cap f_hcap (nI (l ++ sn_ls (fun k => a_base (bp + k)) k).length) f_caret f_sel f_bodyLen f_sBodyLen f_merge f_session f_selected f_active f_nItems f_finalIdx f_fromStruct (nI bl) f_baseP f_rlen f_tlen f_clearAll f_svF f_svL f_hCount (sn_wr t 0 (l ++ sn_ls (fun k => a_base (bp + k)) k)) a_body a_sBody a_typed a_tLen a_tText a_kind a_val a_stopOf a_par a_ipos a_prim a_stack a_occ a_base a_rbuf a_tbuf a_svT a_hist := by
    intro m
    induction m with
    | zero =>
      intro k n hi hn
      obtain ⟨n, rfl⟩ : ∃ k, n = k + 1 := ⟨n - 1, by omega⟩
      obtain rfl : k = bl - bp := by omega
      exact br_t (nI_le (by omega) (by omega)) h
    | succ m ih =>
      intro k n hi hn
      obtain ⟨n, rfl⟩ : ∃ k, n = k + 1 := ⟨n - 1, by omega⟩
      refine br_f (nI_ge (by omega) (by omega)) (br_f (nI_ge (a := bp + k) (b := 64) (by omega) (by omega)) ⟨vp_in_nI (by omega) (by omega), ?_⟩)
      rw [nI_clamp (by omega)]
      refine sn_ybput _ (by rw [List.length_append, sn_lsL]; omega) ?_
      intro y ey
      rw [ey, nI_1, List.append_assoc]
      exact ih (k + 1) n (by omega) (by omega)
  have w := go (bl - bp) 0 (bl - bp + 1) (by omega) (by omega)
  rw [show sn_ls (fun k => a_base (bp + k)) 0 = [] from rfl, List.append_nil] at w
  exact ⟨_, w⟩
theorem sn_yb43 {post : SY → Prop} {t : Nat → Int32} (R : List Int32) (A : sn_ag 64 a_rbuf R) (l : List Int32) (hl : l.length + R.length ≤ 64)
    (h : ∃ n, wY_rebuild_78 post n f_baseP f_cap f_hcap (nI (l ++ R).length) f_caret f_sel f_bodyLen f_sBodyLen f_merge f_session f_selected f_active f_nItems f_finalIdx f_fromStruct f_baseLen f_baseP (nI R.length) f_tlen f_clearAll f_svF f_svL f_hCount (sn_wr t 0 (l ++ R)) a_body a_sBody a_typed a_tLen a_tText a_kind a_val a_stopOf a_par a_ipos a_prim a_stack a_occ a_base a_rbuf a_tbuf a_svT a_hist) :
    ∃ n, wY_rebuild_43 post n 0 f_cap f_hcap (nI l.length) f_caret f_sel f_bodyLen f_sBodyLen f_merge f_session f_selected f_active f_nItems f_finalIdx f_fromStruct f_baseLen f_baseP (nI R.length) f_tlen f_clearAll f_svF f_svL f_hCount (sn_wr t 0 l) a_body a_sBody a_typed a_tLen a_tText a_kind a_val a_stopOf a_par a_ipos a_prim a_stack a_occ a_base a_rbuf a_tbuf a_svT a_hist := by
  have eR : sn_ls a_rbuf R.length = R := sn_agE A (by omega)
  have go : ∀ m k n, k + m = R.length → m < n → wY_rebuild_43 post n (nI k) f_cap f_hcap (nI (l ++ sn_ls a_rbuf k).length) f_caret f_sel f_bodyLen f_sBodyLen f_merge f_session f_selected f_active f_nItems f_finalIdx f_fromStruct f_baseLen f_baseP (nI R.length) f_tlen f_clearAll f_svF f_svL f_hCount (sn_wr t 0 (l ++ sn_ls a_rbuf k)) a_body a_sBody a_typed a_tLen a_tText a_kind a_val a_stopOf a_par a_ipos a_prim a_stack a_occ a_base a_rbuf a_tbuf a_svT a_hist := by
    intro m
    induction m with
    | zero =>
      intro k n hi hn
      obtain ⟨n, rfl⟩ : ∃ k, n = k + 1 := ⟨n - 1, by omega⟩
      obtain rfl : k = R.length := by omega
      rw [eR]
      exact br_t (nI_le (by omega) (by omega)) h
    | succ m ih =>
      intro k n hi hn
      obtain ⟨n, rfl⟩ : ∃ k, n = k + 1 := ⟨n - 1, by omega⟩
      refine br_f (nI_ge (by omega) (by omega)) (br_f (nI_ge (a := k) (b := 64) (by omega) (by omega)) ⟨vp_in_nI (by omega) (by omega), ?_⟩)
      rw [nI_clamp (by omega)]
      refine sn_ybput _ (by rw [List.length_append, sn_lsL]; omega) ?_
      intro y ey
      rw [ey, nI_1, List.append_assoc]
      exact ih (k + 1) n (by omega) (by omega)
  have w := go R.length 0 (R.length + 1) (by omega) (by omega)
  rw [show sn_ls a_rbuf 0 = [] from rfl, List.append_nil] at w
  exact ⟨_, w⟩
theorem sn_yb11 {post : SY → Prop} (bp : Nat) (hb : bp ≤ 64)
    (h : ∃ n, wY_rebuild_43 post n 0 f_cap f_hcap (nI (sn_ls a_base bp).length) f_caret f_sel f_bodyLen f_sBodyLen f_merge f_session f_selected f_active f_nItems f_finalIdx f_fromStruct f_baseLen (nI bp) f_rlen f_tlen f_clearAll f_svF f_svL f_hCount (sn_wr a_buf 0 (sn_ls a_base bp)) a_body a_sBody a_typed a_tLen a_tText a_kind a_val a_stopOf a_par a_ipos a_prim a_stack a_occ a_base a_rbuf a_tbuf a_svT a_hist) :
    ∃ n, wY_rebuild_11 post n 0 f_cap f_hcap 0 f_caret f_sel f_bodyLen f_sBodyLen f_merge f_session f_selected f_active f_nItems f_finalIdx f_fromStruct f_baseLen (nI bp) f_rlen f_tlen f_clearAll f_svF f_svL f_hCount a_buf a_body a_sBody a_typed a_tLen a_tText a_kind a_val a_stopOf a_par a_ipos a_prim a_stack a_occ a_base a_rbuf a_tbuf a_svT a_hist := by
  have go : ∀ m k n, k + m = bp → m < n → wY_rebuild_11 post n (nI k) f_cap f_hcap (nI (sn_ls a_base k).length) f_caret f_sel f_bodyLen f_sBodyLen f_merge f_session f_selected f_active f_nItems f_finalIdx f_fromStruct f_baseLen (nI bp) f_rlen f_tlen f_clearAll f_svF f_svL f_hCount (sn_wr a_buf 0 (sn_ls a_base k)) a_body a_sBody a_typed a_tLen a_tText a_kind a_val a_stopOf a_par a_ipos a_prim a_stack a_occ a_base a_rbuf a_tbuf a_svT a_hist := by
    intro m
    induction m with
    | zero =>
      intro k n hi hn
      obtain ⟨n, rfl⟩ : ∃ k, n = k + 1 := ⟨n - 1, by omega⟩
      obtain rfl : k = bp := by omega
      exact br_t (nI_le (by omega) (by omega)) h
    | succ m ih =>
      intro k n hi hn
      obtain ⟨n, rfl⟩ : ∃ k, n = k + 1 := ⟨n - 1, by omega⟩
      refine br_f (nI_ge (by omega) (by omega)) (br_f (nI_ge (a := k) (b := 64) (by omega) (by omega)) ⟨vp_in_nI (by omega) (by omega), ?_⟩)
      rw [nI_clamp (by omega)]
      refine sn_ybput _ (by rw [sn_lsL]; omega) ?_
      intro y ey
      rw [ey, nI_1]
      exact ih (k + 1) n (by omega) (by omega)
  have w := go bp 0 (bp + 1) (by omega) (by omega)
  rw [show sn_ls a_base 0 = [] from rfl, sn_wr0] at w
  exact ⟨_, w⟩
theorem sn_yrb {post : SY → Prop} (P : sn_PI c 0 st K V S oa ca sg dp pa) (hc : c ≤ 65) (Y : sn_YS c K V S oa sg pa f_nItems f_finalIdx a_kind a_val a_stopOf a_par a_prim) (T : sn_YT f_clearAll a_typed a_tLen L) (bp bl : Nat) (hb : bp ≤ bl) (hl : bl + (sn_rr K V S oa ca L a_tText c).length ≤ 64)
    (h : ∀ rl rb tb tl ip, post (f_cap, f_hcap, nI (bl + (sn_rr K V S oa ca L a_tText c).length), f_caret, f_sel, f_bodyLen, f_sBodyLen, f_merge, f_session, f_selected, f_active, f_nItems, f_finalIdx, f_fromStruct, nI bl, nI bp, rl, tl, f_clearAll, f_svF, f_svL, f_hCount, sn_wr a_buf 0 (sn_ls a_base bp ++ sn_rr K V S oa ca L a_tText c ++ sn_ls (fun k => a_base (bp + k)) (bl - bp)), a_body, a_sBody, a_typed, a_tLen, a_tText, a_kind, a_val, a_stopOf, a_par, ip, a_prim, a_stack, a_occ, a_base, rb, tb, a_svT, a_hist)) :
    wpY_rebuild post (f_cap, f_hcap, f_len, f_caret, f_sel, f_bodyLen, f_sBodyLen, f_merge, f_session, f_selected, f_active, f_nItems, f_finalIdx, f_fromStruct, nI bl, nI bp, f_rlen, f_tlen, f_clearAll, f_svF, f_svL, f_hCount, a_buf, a_body, a_sBody, a_typed, a_tLen, a_tText, a_kind, a_val, a_stopOf, a_par, a_ipos, a_prim, a_stack, a_occ, a_base, a_rbuf, a_tbuf, a_svT, a_hist) := by
  have hlen : (sn_ls a_base bp ++ sn_rr K V S oa ca L a_tText c ++ sn_ls (fun k => a_base (bp + k)) (bl - bp)).length = bl + (sn_rr K V S oa ca L a_tText c).length := by
    rw [List.length_append, List.length_append, sn_lsL, sn_lsL]; omega
  unfold wpY_rebuild
  refine sn_yrn P hc Y T (fun rb tb tl ip A I => ?_)
  refine sn_yb11 bp (by omega) (sn_yb43 _ A _ (by rw [sn_lsL]; omega) (sn_yb78 bp bl hb (by omega) _ (by rw [List.length_append, sn_lsL]; omega) ?_))
  rw [hlen]
  exact h _ rb tb tl ip
theorem sn_yst {post : Int32 → SY → Prop} {x0 : Int32} (P : sn_PI c 0 st K V S oa ca sg dp pa) (hc : c ≤ 65) (Y : sn_YS c K V S oa sg pa f_nItems f_finalIdx a_kind a_val a_stopOf a_par a_prim) (T : sn_YT f_clearAll a_typed a_tLen L) (bp s : Nat) (e0 : x0 = nI s) (h1 : 1 ≤ s) (h9 : s ≤ 9) (hs : oa s < c) (ha : ¬ sn_hid oa ca L 0 (oa s))
    (h : ∀ rl rb tb tl ip, post (nI (bp + (sn_rr K V S oa ca L a_tText (oa s)).length)) (f_cap, f_hcap, f_len, f_caret, f_sel, f_bodyLen, f_sBodyLen, f_merge, f_session, f_selected, f_active, f_nItems, f_finalIdx, f_fromStruct, f_baseLen, nI bp, rl, tl, f_clearAll, f_svF, f_svL, f_hCount, a_buf, a_body, a_sBody, a_typed, a_tLen, a_tText, a_kind, a_val, a_stopOf, a_par, ip, a_prim, a_stack, a_occ, a_base, rb, tb, a_svT, a_hist)) : wpY_startOf post (f_cap, f_hcap, f_len, f_caret, f_sel, f_bodyLen, f_sBodyLen, f_merge, f_session, f_selected, f_active, f_nItems, f_finalIdx, f_fromStruct, f_baseLen, nI bp, f_rlen, f_tlen, f_clearAll, f_svF, f_svL, f_hCount, a_buf, a_body, a_sBody, a_typed, a_tLen, a_tText, a_kind, a_val, a_stopOf, a_par, a_ipos, a_prim, a_stack, a_occ, a_base, a_rbuf, a_tbuf, a_svT, a_hist) x0 := by
  subst e0
  have c0 := P.1
  have so := sn_sgx P.2.1 (show oa s ≤ c by omega)
  have k2 : K (oa s) ≠ 2 := by rcases sn_clo P s with a | a | a <;> omega
  unfold wpY_startOf
  refine sn_yrn P hc Y T (fun rb tb tl ip A I => ?_)
  refine ⟨vp_in_nI (by omega) (by omega), fun y ey => ?_⟩
  rw [nI_clamp (by omega), Y.2.2.1 s h1 h9, if_neg (by omega)] at ey
  subst ey
  refine br_t (nI_pos' (by omega)) ⟨vp_in_nI (by omega) (by omega), ?_⟩
  rw [nI_clamp (by omega), I (oa s) hs k2 ha, nI_add]
  exact h _ rb tb tl ip
theorem sn_yen {post : Int32 → SY → Prop} {x0 : Int32} (P : sn_PI c 0 st K V S oa ca sg dp pa) (hc : c ≤ 65) (Y : sn_YS c K V S oa sg pa f_nItems f_finalIdx a_kind a_val a_stopOf a_par a_prim) (T : sn_YT f_clearAll a_typed a_tLen L) (bp s : Nat) (e0 : x0 = nI s) (h1 : 1 ≤ s) (h9 : s ≤ 9) (hs : oa s < c) (ha : ¬ sn_hid oa ca L 0 (oa s))
    (h : ∀ rl rb tb tl ip, post (nI (bp + (sn_rr K V S oa ca L a_tText (ca s)).length)) (f_cap, f_hcap, f_len, f_caret, f_sel, f_bodyLen, f_sBodyLen, f_merge, f_session, f_selected, f_active, f_nItems, f_finalIdx, f_fromStruct, f_baseLen, nI bp, rl, tl, f_clearAll, f_svF, f_svL, f_hCount, a_buf, a_body, a_sBody, a_typed, a_tLen, a_tText, a_kind, a_val, a_stopOf, a_par, ip, a_prim, a_stack, a_occ, a_base, rb, tb, a_svT, a_hist)) : wpY_endOf post (f_cap, f_hcap, f_len, f_caret, f_sel, f_bodyLen, f_sBodyLen, f_merge, f_session, f_selected, f_active, f_nItems, f_finalIdx, f_fromStruct, f_baseLen, nI bp, f_rlen, f_tlen, f_clearAll, f_svF, f_svL, f_hCount, a_buf, a_body, a_sBody, a_typed, a_tLen, a_tText, a_kind, a_val, a_stopOf, a_par, a_ipos, a_prim, a_stack, a_occ, a_base, a_rbuf, a_tbuf, a_svT, a_hist) x0 := by
  subst e0
  unfold wpY_endOf
  refine sn_yst P hc Y T bp s rfl h1 h9 hs ha (fun rl rb tb tl ip => ?_)
  refine sn_ypr P hc Y T s rfl h1 h9 hs (fun tb' A => ?_)
  rw [sn_rrP P h1 hs ha, List.length_append, ← Nat.add_assoc, ← nI_add] at h
  exact h rl rb tb' _ ip
theorem sn_yfp {post : Int32 → SY → Prop} (P : sn_PI c 0 st K V S oa ca sg dp pa) (hc : c ≤ 65) (Y : sn_YS c K V S oa sg pa f_nItems f_finalIdx a_kind a_val a_stopOf a_par a_prim) (T : sn_YT f_clearAll a_typed a_tLen L) (bp : Nat) (h00 : oa 0 < c)
    (h : ∀ rl rb tb tl ip, post (nI (bp + (sn_rr K V S oa ca L a_tText (oa 0)).length)) (f_cap, f_hcap, f_len, f_caret, f_sel, f_bodyLen, f_sBodyLen, f_merge, f_session, f_selected, f_active, f_nItems, f_finalIdx, f_fromStruct, f_baseLen, nI bp, rl, tl, f_clearAll, f_svF, f_svL, f_hCount, a_buf, a_body, a_sBody, a_typed, a_tLen, a_tText, a_kind, a_val, a_stopOf, a_par, ip, a_prim, a_stack, a_occ, a_base, rb, tb, a_svT, a_hist)) : wpY_finalPos post (f_cap, f_hcap, f_len, f_caret, f_sel, f_bodyLen, f_sBodyLen, f_merge, f_session, f_selected, f_active, f_nItems, f_finalIdx, f_fromStruct, f_baseLen, nI bp, f_rlen, f_tlen, f_clearAll, f_svF, f_svL, f_hCount, a_buf, a_body, a_sBody, a_typed, a_tLen, a_tText, a_kind, a_val, a_stopOf, a_par, a_ipos, a_prim, a_stack, a_occ, a_base, a_rbuf, a_tbuf, a_svT, a_hist) := by
  have c0 := P.1
  have so := sn_sgx P.2.1 (show oa 0 ≤ c by omega)
  have k3 : K (oa 0) = 3 := by rcases sn_clo P 0 with a | a | a <;> omega
  have ef : f_finalIdx = nI (sg (oa 0)) := by rw [Y.2.2.2, if_neg (by omega)]
  unfold wpY_finalPos
  refine sn_yrn P hc Y T (fun rb tb tl ip A I => ?_)
  subst ef
  refine br_t (nI_pos' (by omega)) ⟨vp_in_nI (by omega) (by omega), ?_⟩
  rw [nI_clamp (by omega), I (oa 0) h00 (by omega) (sn_mirH P h00 (by omega)), nI_add]
  exact h _ rb tb tl ip
theorem sn_yalv {post : Int32 → Prop} {x0 : Int32} (P : sn_PI c 0 st K V S oa ca sg dp pa) (hc : c ≤ 65) (Y : sn_YS c K V S oa sg pa f_nItems f_finalIdx a_kind a_val a_stopOf a_par a_prim) (T : sn_YT f_clearAll a_typed a_tLen L) (s : Nat) (e0 : x0 = nI s) (h1 : 1 ≤ s) (h9 : s ≤ 9)
    (ht : sn_AL oa ca L s → post 1) (hf : ¬ sn_AL oa ca L s → post 0) : wpY_alive post (f_cap, f_hcap, f_len, f_caret, f_sel, f_bodyLen, f_sBodyLen, f_merge, f_session, f_selected, f_active, f_nItems, f_finalIdx, f_fromStruct, f_baseLen, f_baseP, f_rlen, f_tlen, f_clearAll, f_svF, f_svL, f_hCount, a_buf, a_body, a_sBody, a_typed, a_tLen, a_tText, a_kind, a_val, a_stopOf, a_par, a_ipos, a_prim, a_stack, a_occ, a_base, a_rbuf, a_tbuf, a_svT, a_hist) x0 := by
  subst e0
  have c0 := P.1
  have v10 : vp_in (nI s) 10 := vp_in_nI (by omega) (by omega)
  refine br_f (fun y => absurd ((nI_ltI (a := s) (b := 1) (by omega) (by omega)).mp y) (by omega)) (br_f (fun y => absurd ((nI_ltI (a := 9) (b := s) (by omega) (by omega)).mp y) (by omega)) ⟨v10, ?_⟩)
  rw [nI_clamp (show s < 2 ^ 31 by omega), Y.2.2.1 s h1 h9]
  by_cases z : oa s = 1000
  · rw [if_pos z]
    exact br_t (by decide) (hf (fun w => w.1 z))
  · rw [if_neg z]
    have oc : oa s < c ∧ K (oa s) ≠ 2 := by rcases sn_clo P s with a | a | a <;> omega
    have so := sn_sgx P.2.1 (show oa s ≤ c by omega)
    refine br_f (nI_pos (by omega)) ⟨v10, ?_⟩
    exact sn_yhid P hc Y T 0 (oa s) rfl oc.1 oc.2 (Or.inl ⟨rfl, rfl⟩) (fun w => br_f (by decide) (hf (fun q => q.2 w))) (fun w => br_t rfl (ht ⟨z, w⟩))
theorem sn_ysel {post : SY → Prop} {x0 : Int32} (P : sn_PI c 0 st K V S oa ca sg dp pa) (hc : c ≤ 65) (Y : sn_YS c K V S oa sg pa f_nItems f_finalIdx a_kind a_val a_stopOf a_par a_prim) (T : sn_YT f_clearAll a_typed a_tLen L) (bp s : Nat) (e0 : x0 = nI s) (h1 : 1 ≤ s) (h9 : s ≤ 9) (al : sn_AL oa ca L s)
    (h : ∀ rl rb tb tl ip, post (f_cap, f_hcap, f_len, nI (bp + (sn_rr K V S oa ca L a_tText (ca s)).length), nI (bp + (sn_rr K V S oa ca L a_tText (oa s)).length), f_bodyLen, f_sBodyLen, f_merge, f_session, 1, nI s, f_nItems, f_finalIdx, f_fromStruct, f_baseLen, nI bp, rl, tl, f_clearAll, f_svF, f_svL, f_hCount, a_buf, a_body, a_sBody, a_typed, a_tLen, a_tText, a_kind, a_val, a_stopOf, a_par, ip, a_prim, a_stack, a_occ, a_base, rb, tb, a_svT, a_hist)) : wpY_select post (f_cap, f_hcap, f_len, f_caret, f_sel, f_bodyLen, f_sBodyLen, f_merge, f_session, f_selected, f_active, f_nItems, f_finalIdx, f_fromStruct, f_baseLen, nI bp, f_rlen, f_tlen, f_clearAll, f_svF, f_svL, f_hCount, a_buf, a_body, a_sBody, a_typed, a_tLen, a_tText, a_kind, a_val, a_stopOf, a_par, a_ipos, a_prim, a_stack, a_occ, a_base, a_rbuf, a_tbuf, a_svT, a_hist) x0 := by
  subst e0
  have c0 := P.1
  have oc : oa s < c := by
    have := al.1
    rcases sn_clo P s with a | a | a <;> omega
  unfold wpY_select
  refine sn_yst P hc Y T bp s rfl h1 h9 oc al.2 (fun rl rb tb tl ip => ?_)
  exact sn_yen P hc Y T bp s rfl h1 h9 oc al.2 (fun rl rb tb tl ip => h rl rb tb tl ip)
end SNT
