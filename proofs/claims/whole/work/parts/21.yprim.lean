section SNS
/-! Y: primText, mirrors -/
variable {K S oa ca sg dp pa st : Nat → Nat} {V L : Nat → Int32} {c : Nat}
variable {f_cap f_hcap f_len f_caret f_sel f_bodyLen f_sBodyLen f_merge f_session f_selected f_active f_nItems f_finalIdx f_fromStruct f_baseLen f_baseP f_rlen f_tlen f_clearAll f_svF f_svL f_hCount : Int32} {a_buf a_body a_sBody a_typed a_tLen a_tText a_kind a_val a_stopOf a_par a_ipos a_prim a_stack a_occ a_base a_rbuf a_tbuf a_svT a_hist : Nat → Int32}
theorem sn_yprl {post : SY → Prop} (P : sn_PI c 0 st K V S oa ca sg dp pa) (hc : c ≤ 65) (Y : sn_YS c K V S oa sg pa f_nItems f_finalIdx a_kind a_val a_stopOf a_par a_prim) (T : sn_YT f_clearAll a_typed a_tLen L) (s : Nat) (h1 : 1 ≤ s) (hs : oa s < c) (hl : L s = -1)
    (h : ∀ tb, sn_ag 160 tb (sn_pt K V S oa ca L a_tText s) → post (f_cap, f_hcap, f_len, f_caret, f_sel, f_bodyLen, f_sBodyLen, f_merge, f_session, f_selected, f_active, f_nItems, f_finalIdx, f_fromStruct, f_baseLen, f_baseP, f_rlen, nI (sn_pt K V S oa ca L a_tText s).length, f_clearAll, f_svF, f_svL, f_hCount, a_buf, a_body, a_sBody, a_typed, a_tLen, a_tText, a_kind, a_val, a_stopOf, a_par, a_ipos, a_prim, a_stack, a_occ, a_base, a_rbuf, tb, a_svT, a_hist)) :
    ∀ m x n tb, x + m = ca s → oa s < x → m < n → sn_ag 160 tb (sn_sp K V S oa ca L a_tText (oa s) (x - oa s)) →
      wY_primText_35 post (nI (sg (oa s))) n (nI (sg x)) f_cap f_hcap f_len f_caret f_sel f_bodyLen f_sBodyLen f_merge f_session f_selected f_active f_nItems f_finalIdx f_fromStruct f_baseLen f_baseP f_rlen (nI (sn_sp K V S oa ca L a_tText (oa s) (x - oa s)).length) f_clearAll f_svF f_svL f_hCount a_buf a_body a_sBody a_typed a_tLen a_tText a_kind a_val a_stopOf a_par a_ipos a_prim a_stack a_occ a_base a_rbuf tb a_svT a_hist := by
  have c0 := P.1
  have qs : s ≤ 9 ∧ oa s < ca s ∧ ca s < c ∧ K (oa s) = 1 := by
    rcases sn_clo P s with a | a | a
    · omega
    · omega
    · exact ⟨a.2.1, a.2.2.1, a.2.2.2.1, a.2.2.2.2.1⟩
  have LL := sn_YTL T
  have L8 := sn_LL8 LL
  have so := sn_sgx P.2.1 (show oa s ≤ c by omega)
  intro m
  induction m with
  | zero =>
    intro x n tb hx ho hn A
    obtain ⟨n, rfl⟩ : ∃ k, n = k + 1 := ⟨n - 1, by omega⟩
    obtain rfl : x = ca s := by omega
    obtain ⟨y, y1, y2, y3, y4⟩ := sn_exit P h1 hs
    have sy := sn_sgx P.2.1 y2
    rw [← y3]
    rcases y4 with e | ⟨y5, y6, y7⟩
    · exact br_t (by rw [Y.1, e]; exact nI_le (Nat.le_refl _) (by have := sn_sgx P.2.1 (Nat.le_refl c); omega)) (h tb A)
    · have lt := sn_sgS P.2.1 y5 (Nat.le_refl c) y6
      have sc := sn_sgx P.2.1 (Nat.le_refl c)
      refine br_f (by rw [Y.1]; exact nI_ge lt (by omega)) ⟨vp_in_nI (by omega) (by omega), br_t ?_ (h tb A)⟩
      rw [nI_clamp (by omega), (Y.2.1 y y5 y6).2.1]
      rcases y7 with e | ⟨e1, e2⟩
      · rw [sn_yp0 e]
        exact Int32.lt_of_lt_of_le (show (-1 : Int32) < 0 by decide) (nI_pos' (by omega))
      · rw [sn_yp1 (by omega)]
        have kp : K (oa (pa y)) ≠ 2 := by
          rcases sn_clo P (pa y) with a | a | a <;> omega
        have l2 := sn_sgS P.2.1 e2 (by omega) kp
        exact nI_lt l2 (by omega)
  | succ m ih =>
    intro x n tb hx ho hn A
    have hxc : x < c := by omega
    have e1 : sn_sp K V S oa ca L a_tText (oa s) (x + 1 - oa s) = sn_sp K V S oa ca L a_tText (oa s) (x - oa s) ++ sn_out K V S oa ca L a_tText (oa s) x := by
      rw [show x + 1 - oa s = (x - oa s) + 1 by omega, sn_sp, show oa s + (x - oa s) = x by omega]
    by_cases k2 : K x = 2
    · have w := ih (x + 1) n tb (by omega) (by omega) (by omega) (by rw [e1, sn_out2 (by omega) (by omega), List.append_nil]; exact A)
      rw [e1, sn_out2 (by omega) (by omega), List.append_nil, sn_sg2 P.2.1 hxc k2] at w
      exact w
    · obtain ⟨n, rfl⟩ : ∃ k, n = k + 1 := ⟨n - 1, by omega⟩
      have lb := sn_spB' (V := V) (L := L) (T := a_tText) (f := oa s) (n := x + 1 - oa s) P.2.2.2.2.1 L8 (by omega)
      have sx := sn_sgx P.2.1 (show x ≤ c by omega)
      have lt := sn_sgS P.2.1 hxc (Nat.le_refl c) k2
      have sc := sn_sgx P.2.1 (Nat.le_refl c)
      have v72 : vp_in (nI (sg x)) 72 := vp_in_nI (by omega) (by omega)
      have cx : (nI (sg x)).toNatClampNeg = sg x := nI_clamp (by omega)
      have ys := Y.2.1 x hxc k2
      have nxt : ∀ tb', sn_ag 160 tb' (sn_sp K V S oa ca L a_tText (oa s) (x + 1 - oa s)) → ∀ y : Int32, y = nI (sg x) + 1 → wY_primText_35 post (nI (sg (oa s))) n y f_cap f_hcap f_len f_caret f_sel f_bodyLen f_sBodyLen f_merge f_session f_selected f_active f_nItems f_finalIdx f_fromStruct f_baseLen f_baseP f_rlen (nI (sn_sp K V S oa ca L a_tText (oa s) (x + 1 - oa s)).length) f_clearAll f_svF f_svL f_hCount a_buf a_body a_sBody a_typed a_tLen a_tText a_kind a_val a_stopOf a_par a_ipos a_prim a_stack a_occ a_base a_rbuf tb' a_svT a_hist := by
        intro tb' A' y ey
        have w := ih (x + 1) n tb' (by omega) (by omega) (by omega) A'
        rw [sn_sg1 P.2.1 hxc k2] at w
        rw [ey, nI_1]; exact w
      have skip : sn_out K V S oa ca L a_tText (oa s) x = [] → ∀ y : Int32, y = nI (sg x) + 1 → wY_primText_35 post (nI (sg (oa s))) n y f_cap f_hcap f_len f_caret f_sel f_bodyLen f_sBodyLen f_merge f_session f_selected f_active f_nItems f_finalIdx f_fromStruct f_baseLen f_baseP f_rlen (nI (sn_sp K V S oa ca L a_tText (oa s) (x - oa s)).length) f_clearAll f_svF f_svL f_hCount a_buf a_body a_sBody a_typed a_tLen a_tText a_kind a_val a_stopOf a_par a_ipos a_prim a_stack a_occ a_base a_rbuf tb a_svT a_hist := by
        intro eo
        rw [e1, eo, List.append_nil] at nxt
        exact nxt tb A
      have en : sn_enc oa ca s x := ⟨ho, by omega⟩
      refine br_f (by rw [Y.1]; exact nI_ge lt (by omega)) ⟨v72, br_f ?_ ?_⟩
      · rw [cx, ys.2.1]
        rcases sn_ch P L hxc k2 with ⟨_, _, a⟩ | ⟨a1, a2, a3, a4, a5, a6, a7, a8, a9, a10⟩
        · exact absurd en (a s)
        · rw [sn_yp1 (by omega)]
          have so2 := sn_sgx P.2.1 (show oa (pa x) ≤ c by omega)
          refine nI_nlt ?_ (by omega)
          rcases a10 s en with e | e
          · rw [← e]; exact Nat.le_refl _
          · exact sn_sgM' P.2.1 (Nat.le_of_lt e.1) (by omega)
      · refine sn_yhid P hc Y T (oa s + 1) x rfl hxc k2 (Or.inr ⟨s, h1, hs, rfl, rfl, en⟩) (fun z => ?_) (fun z => ?_)
        · exact br_f (by decide) (skip (sn_outH ((sn_hid1 P hs h1 hl).mpr z)))
        · have nh : ¬ sn_hid oa ca L (oa s) x := fun w => z ((sn_hid1 P hs h1 hl).mp w)
          refine br_t rfl ⟨v72, ?_⟩
          rw [cx]
          by_cases k0 : K x = 0
          · have kv := ys.2.2.1 k0
            refine br_t kv.1 ⟨v72, ?_⟩
            rw [kv.2]
            rw [e1, sn_out0 nh k0] at nxt lb
            rw [List.length_append] at lb
            have lb1 : ([V x] : List Int32).length = 1 := rfl
            refine sn_ytput _ A (by omega) (fun tb' A' => nxt tb' A')
          · by_cases k1 : K x = 1
            · have qx : 1 ≤ S x ∧ S x ≤ 9 := by
                rcases P.2.2.2.2.1 x hxc with a | a | a | a | a <;> omega
              have J : wY_primText_107 post (wY_primText_35 post (nI (sg (oa s))) n) (nI (sg (oa s))) (nI (sg x)) f_cap f_hcap f_len f_caret f_sel f_bodyLen f_sBodyLen f_merge f_session f_selected f_active f_nItems f_finalIdx f_fromStruct f_baseLen f_baseP f_rlen (nI (sn_sp K V S oa ca L a_tText (oa s) (x - oa s)).length) f_clearAll f_svF f_svL f_hCount a_buf a_body a_sBody a_typed a_tLen a_tText a_kind a_val a_stopOf a_par a_ipos a_prim a_stack a_occ a_base a_rbuf tb a_svT a_hist := by
                refine ⟨v72, ?_⟩
                rw [cx, ys.1]
                refine sn_yisT T (S x) rfl qx.2 (fun l1 => ?_) (fun l1 => ?_)
                · refine br_f (by decide) ⟨v72, ?_⟩
                  rcases T (S x) qx.2 with b | ⟨mm, hm, b1, b2, b3, b4⟩
                  · exact absurd b.1 l1
                  · have et : sn_out K V S oa ca L a_tText (oa s) x = sn_ls (fun k => a_tText (S x * 8 + k)) mm := by
                      rw [sn_out1 nh k1 l1]; unfold sn_ty; rw [b1, nI_clamp (by omega)]
                    rw [e1, et] at nxt lb
                    rw [List.length_append, sn_lsL] at lb
                    exact sn_ytypT (S x) mm rfl qx.2 b4 hm _ A (by omega) (fun tb' A' => nxt tb' A')
                · exact br_t rfl (skip (sn_out2 k0 (fun w => w.2 l1)))
              have kk := ys.2.2.2.1 k1
              rcases kk with kk | kk
              · exact br_f (by rw [kk]; decide) ⟨v72, br_f (by rw [kk]; decide) ⟨v72, br_t kk J⟩⟩
              · exact br_f (by rw [kk]; decide) ⟨v72, br_t kk J⟩
            · have kk : a_kind (sg x) = 4 ∨ a_kind (sg x) = 3 := by
                rcases P.2.2.2.2.1 x hxc with a | a | a | a | a
                · omega
                · omega
                · omega
                · exact Or.inl (ys.2.2.2.2.1 a.1)
                · exact Or.inr (ys.2.2.2.2.2 a.1).1
              have sk := skip (sn_out2 k0 (fun w => k1 w.1))
              rcases kk with kk | kk
              · exact br_f (by rw [kk]; decide) ⟨v72, br_f (by rw [kk]; decide) ⟨v72, br_f (by rw [kk]; decide) sk⟩⟩
              · exact br_f (by rw [kk]; decide) ⟨v72, br_f (by rw [kk]; decide) ⟨v72, br_f (by rw [kk]; decide) sk⟩⟩
theorem sn_ypr {post : SY → Prop} {x0 : Int32} (P : sn_PI c 0 st K V S oa ca sg dp pa) (hc : c ≤ 65) (Y : sn_YS c K V S oa sg pa f_nItems f_finalIdx a_kind a_val a_stopOf a_par a_prim) (T : sn_YT f_clearAll a_typed a_tLen L) (s : Nat) (e0 : x0 = nI s) (h1 : 1 ≤ s) (h9 : s ≤ 9) (hs : oa s < c)
    (h : ∀ tb, sn_ag 160 tb (sn_pt K V S oa ca L a_tText s) → post (f_cap, f_hcap, f_len, f_caret, f_sel, f_bodyLen, f_sBodyLen, f_merge, f_session, f_selected, f_active, f_nItems, f_finalIdx, f_fromStruct, f_baseLen, f_baseP, f_rlen, nI (sn_pt K V S oa ca L a_tText s).length, f_clearAll, f_svF, f_svL, f_hCount, a_buf, a_body, a_sBody, a_typed, a_tLen, a_tText, a_kind, a_val, a_stopOf, a_par, a_ipos, a_prim, a_stack, a_occ, a_base, a_rbuf, tb, a_svT, a_hist)) : wpY_primText post (f_cap, f_hcap, f_len, f_caret, f_sel, f_bodyLen, f_sBodyLen, f_merge, f_session, f_selected, f_active, f_nItems, f_finalIdx, f_fromStruct, f_baseLen, f_baseP, f_rlen, f_tlen, f_clearAll, f_svF, f_svL, f_hCount, a_buf, a_body, a_sBody, a_typed, a_tLen, a_tText, a_kind, a_val, a_stopOf, a_par, a_ipos, a_prim, a_stack, a_occ, a_base, a_rbuf, a_tbuf, a_svT, a_hist) x0 := by
  subst e0
  have c0 := P.1
  have so := sn_sgx P.2.1 (show oa s ≤ c by omega)
  have cs : (nI s).toNatClampNeg = s := nI_clamp (by omega)
  refine ⟨vp_in_nI (by omega) (by omega), ?_⟩
  intro y ey
  rw [cs, Y.2.2.1 s h1 h9, if_neg (by omega)] at ey
  subst ey
  refine br_t (nI_pos' (by omega)) ?_
  refine sn_yisT T s rfl h9 (fun l1 => ?_) (fun l1 => ?_)
  · refine br_f (by decide) ?_
    rcases T s h9 with b | ⟨mm, hm, b1, b2, b3, b4⟩
    · exact absurd b.1 l1
    · have et : sn_pt K V S oa ca L a_tText s = sn_ls (fun k => a_tText (s * 8 + k)) mm := by
        rw [sn_ptT P hs h1 l1]; unfold sn_ty; rw [b1, nI_clamp (by omega)]
      rw [et] at h
      exact sn_ytypT s mm rfl h9 b4 hm [] sn_ag0 (by show 0 + mm ≤ 160; omega) (fun tb A => h tb A)
  · refine br_t rfl (fun z ez => ?_)
    have ks : K (oa s) ≠ 2 ∧ oa s < ca s := by rcases sn_clo P s with a | a | a <;> omega
    have w := sn_yprl (post := post) P hc Y T s h1 hs l1 h (ca s - oa s - 1) (oa s + 1) (ca s - oa s) a_tbuf (by omega) (by omega) (by omega) (by
      rw [Nat.add_sub_cancel_left, (sn_sp1 P hs h1).1 l1]; exact sn_ag0)
    rw [Nat.add_sub_cancel_left, (sn_sp1 P hs h1).1 l1, sn_sg1 P.2.1 hs ks.1] at w
    rw [ez, nI_1]
    exact ⟨_, w⟩
theorem sn_ym82 {post : SY → Prop} {J : _} {x4 : Int32} (t k : Nat) (ht : t ≤ 3) (hk : k < 1000) (h : wY_mirR_112 post J (nI t) (nI k) (if t = 3 ∧ k = 0 then sn_up x4 else x4) f_cap f_hcap f_len f_caret f_sel f_bodyLen f_sBodyLen f_merge f_session f_selected f_active f_nItems f_finalIdx f_fromStruct f_baseLen f_baseP f_rlen f_tlen f_clearAll f_svF f_svL f_hCount a_buf a_body a_sBody a_typed a_tLen a_tText a_kind a_val a_stopOf a_par a_ipos a_prim a_stack a_occ a_base a_rbuf a_tbuf a_svT a_hist) : wY_mirR_82 post J (nI t) (nI k) x4 f_cap f_hcap f_len f_caret f_sel f_bodyLen f_sBodyLen f_merge f_session f_selected f_active f_nItems f_finalIdx f_fromStruct f_baseLen f_baseP f_rlen f_tlen f_clearAll f_svF f_svL f_hCount a_buf a_body a_sBody a_typed a_tLen a_tText a_kind a_val a_stopOf a_par a_ipos a_prim a_stack a_occ a_base a_rbuf a_tbuf a_svT a_hist := by
  by_cases a : t = 3
  · refine br_t (by rw [a]; rfl) ?_
    by_cases b : k = 0
    · rw [if_pos ⟨a, b⟩] at h
      refine br_t (by rw [b]; rfl) ?_
      unfold sn_up at h
      by_cases d : x4 < 97
      · rw [if_neg (fun z => absurd d (Int32.not_lt.mpr z.1))] at h; exact br_t d h
      · refine br_f d ?_
        by_cases e : 122 < x4
        · rw [if_neg (fun z => absurd e (Int32.not_lt.mpr z.2))] at h; exact br_t e h
        · rw [if_pos ⟨Int32.not_lt.mp d, Int32.not_lt.mp e⟩] at h
          exact br_f e (nm_e h)
    · rw [if_neg (fun z => b z.2)] at h
      exact br_f (sn_ne b (by omega) (by omega)) h
  · rw [if_neg (fun z => a z.1)] at h
    exact br_f (sn_ne a (by omega) (by omega)) h
theorem sn_ym56 {post : SY → Prop} {J : _} {x4 : Int32} (t k : Nat) (ht : t ≤ 3) (h : wY_mirR_82 post J (nI t) (nI k) (if t = 2 then sn_lo x4 else x4) f_cap f_hcap f_len f_caret f_sel f_bodyLen f_sBodyLen f_merge f_session f_selected f_active f_nItems f_finalIdx f_fromStruct f_baseLen f_baseP f_rlen f_tlen f_clearAll f_svF f_svL f_hCount a_buf a_body a_sBody a_typed a_tLen a_tText a_kind a_val a_stopOf a_par a_ipos a_prim a_stack a_occ a_base a_rbuf a_tbuf a_svT a_hist) : wY_mirR_56 post J (nI t) (nI k) x4 f_cap f_hcap f_len f_caret f_sel f_bodyLen f_sBodyLen f_merge f_session f_selected f_active f_nItems f_finalIdx f_fromStruct f_baseLen f_baseP f_rlen f_tlen f_clearAll f_svF f_svL f_hCount a_buf a_body a_sBody a_typed a_tLen a_tText a_kind a_val a_stopOf a_par a_ipos a_prim a_stack a_occ a_base a_rbuf a_tbuf a_svT a_hist := by
  by_cases a : t = 2
  · refine br_t (by rw [a]; rfl) ?_
    rw [if_pos a] at h
    unfold sn_lo at h
    by_cases d : x4 < 65
    · rw [if_neg (fun z => absurd d (Int32.not_lt.mpr z.1))] at h; exact br_t d h
    · refine br_f d ?_
      by_cases e : 90 < x4
      · rw [if_neg (fun z => absurd e (Int32.not_lt.mpr z.2))] at h; exact br_t e h
      · rw [if_pos ⟨Int32.not_lt.mp d, Int32.not_lt.mp e⟩] at h
        exact br_f e (nm_e h)
  · rw [if_neg a] at h
    exact br_f (sn_ne a (by omega) (by omega)) h
theorem sn_ytc (t k : Nat) (x : Int32) (ht : t ≤ 3) : (if t = 3 ∧ k = 0 then sn_up (if t = 2 then sn_lo (if t = 1 then sn_up x else x) else (if t = 1 then sn_up x else x)) else (if t = 2 then sn_lo (if t = 1 then sn_up x else x) else (if t = 1 then sn_up x else x))) = sn_tc (4 + t) k x := by
  unfold sn_tc
  by_cases a : t = 1
  · rw [if_neg (by omega), if_neg (by omega), if_pos a, if_pos (by omega)]
  · rw [if_neg a, if_neg (show ¬ 4 + t = 5 by omega)]
    by_cases b : t = 2
    · rw [if_neg (by omega), if_pos b, if_pos (by omega)]
    · rw [if_neg b, if_neg (show ¬ 4 + t = 6 by omega)]
      by_cases d : t = 3 ∧ k = 0
      · rw [if_pos d, if_pos (by omega)]
      · rw [if_neg d, if_neg (by omega)]
theorem sn_ymirl {post : SY → Prop} (t : Nat) (ht : t ≤ 3) (l p : List Int32) (A : sn_ag 160 a_tbuf p) (hp : p.length ≤ 145) (hl : l.length + p.length ≤ 90000)
    (h : ∀ rb, sn_ag 64 rb (l ++ sn_tr (4 + t) p) → post (f_cap, f_hcap, f_len, f_caret, f_sel, f_bodyLen, f_sBodyLen, f_merge, f_session, f_selected, f_active, f_nItems, f_finalIdx, f_fromStruct, f_baseLen, f_baseP, nI (l ++ sn_tr (4 + t) p).length, nI p.length, f_clearAll, f_svF, f_svL, f_hCount, a_buf, a_body, a_sBody, a_typed, a_tLen, a_tText, a_kind, a_val, a_stopOf, a_par, a_ipos, a_prim, a_stack, a_occ, a_base, rb, a_tbuf, a_svT, a_hist)) :
    ∀ m k n rb, k + m = p.length → m < n → sn_ag 64 rb (l ++ sn_ls (fun j => sn_tc (4 + t) j (sn_at p j)) k) →
      wY_mirR_7 post (nI t) n (nI k) f_cap f_hcap f_len f_caret f_sel f_bodyLen f_sBodyLen f_merge f_session f_selected f_active f_nItems f_finalIdx f_fromStruct f_baseLen f_baseP (nI (l ++ sn_ls (fun j => sn_tc (4 + t) j (sn_at p j)) k).length) (nI p.length) f_clearAll f_svF f_svL f_hCount a_buf a_body a_sBody a_typed a_tLen a_tText a_kind a_val a_stopOf a_par a_ipos a_prim a_stack a_occ a_base rb a_tbuf a_svT a_hist := by
  intro m
  induction m with
  | zero =>
    intro k n rb hi hn B
    obtain ⟨n, rfl⟩ : ∃ k, n = k + 1 := ⟨n - 1, by omega⟩
    obtain rfl : k = p.length := by omega
    exact br_t (nI_le (Nat.le_refl _) (by omega)) (h rb B)
  | succ m ih =>
    intro k n rb hi hn B
    obtain ⟨n, rfl⟩ : ∃ k, n = k + 1 := ⟨n - 1, by omega⟩
    refine br_f (nI_ge (by omega) (by omega)) (br_f (nI_ge (a := k) (b := 160) (by omega) (by omega)) ⟨vp_in_nI (by omega) (by omega), fun x ex => ?_⟩)
    rw [nI_clamp (by omega), A k (by omega) (by omega)] at ex
    subst ex
    have fin : wY_mirR_56 post (wY_mirR_7 post (nI t) n) (nI t) (nI k) (if t = 1 then sn_up (sn_at p k) else sn_at p k) f_cap f_hcap f_len f_caret f_sel f_bodyLen f_sBodyLen f_merge f_session f_selected f_active f_nItems f_finalIdx f_fromStruct f_baseLen f_baseP (nI (l ++ sn_ls (fun j => sn_tc (4 + t) j (sn_at p j)) k).length) (nI p.length) f_clearAll f_svF f_svL f_hCount a_buf a_body a_sBody a_typed a_tLen a_tText a_kind a_val a_stopOf a_par a_ipos a_prim a_stack a_occ a_base rb a_tbuf a_svT a_hist := by
      refine sn_ym56 t k ht (sn_ym82 t k ht (by omega) ?_)
      rw [sn_ytc t k _ ht]
      refine sn_yrput _ B (by rw [List.length_append, sn_lsL]; omega) (fun rb' B' => ?_)
      intro y ey
      rw [List.append_assoc] at B'
      rw [ey, nI_1, List.append_assoc]
      exact ih (k + 1) n rb' (by omega) (by omega) B'
    by_cases a : t = 1
    · rw [if_pos a] at fin
      refine br_t (by rw [a]; rfl) ?_
      unfold sn_up at fin
      by_cases d : sn_at p k < 97
      · rw [if_neg (fun z => absurd d (Int32.not_lt.mpr z.1))] at fin; exact br_t d fin
      · refine br_f d ?_
        by_cases e : 122 < sn_at p k
        · rw [if_neg (fun z => absurd e (Int32.not_lt.mpr z.2))] at fin; exact br_t e fin
        · rw [if_pos ⟨Int32.not_lt.mp d, Int32.not_lt.mp e⟩] at fin
          exact br_f e (nm_e fin)
    · rw [if_neg a] at fin
      exact br_f (sn_ne a (by omega) (by omega)) fin
theorem sn_ymir {post : SY → Prop} {x0 x1 : Int32} (P : sn_PI c 0 st K V S oa ca sg dp pa) (hc : c ≤ 65) (Y : sn_YS c K V S oa sg pa f_nItems f_finalIdx a_kind a_val a_stopOf a_par a_prim) (T : sn_YT f_clearAll a_typed a_tLen L) (s t : Nat) (e0 : x0 = nI s) (e1 : x1 = nI t) (h1 : 1 ≤ s) (h9 : s ≤ 9) (hs : oa s < c) (ht : t ≤ 3)
    (l : List Int32) (B : sn_ag 64 a_rbuf l) (hl : l.length ≤ 80000)
    (h : ∀ rb tb tl, sn_ag 64 rb (l ++ sn_tr (4 + t) (sn_pt K V S oa ca L a_tText s)) → post (f_cap, f_hcap, f_len, f_caret, f_sel, f_bodyLen, f_sBodyLen, f_merge, f_session, f_selected, f_active, f_nItems, f_finalIdx, f_fromStruct, f_baseLen, f_baseP, nI (l ++ sn_tr (4 + t) (sn_pt K V S oa ca L a_tText s)).length, tl, f_clearAll, f_svF, f_svL, f_hCount, a_buf, a_body, a_sBody, a_typed, a_tLen, a_tText, a_kind, a_val, a_stopOf, a_par, a_ipos, a_prim, a_stack, a_occ, a_base, rb, tb, a_svT, a_hist)) : wpY_mirR post (f_cap, f_hcap, f_len, f_caret, f_sel, f_bodyLen, f_sBodyLen, f_merge, f_session, f_selected, f_active, f_nItems, f_finalIdx, f_fromStruct, f_baseLen, f_baseP, nI l.length, f_tlen, f_clearAll, f_svF, f_svL, f_hCount, a_buf, a_body, a_sBody, a_typed, a_tLen, a_tText, a_kind, a_val, a_stopOf, a_par, a_ipos, a_prim, a_stack, a_occ, a_base, a_rbuf, a_tbuf, a_svT, a_hist) x0 x1 := by
  subst e1
  have pb := sn_ptB (V := V) (T := a_tText) P hc (sn_LL8 (sn_YTL T)) h9
  unfold wpY_mirR
  refine sn_ypr P hc Y T s e0 h1 h9 hs (fun tb A => ?_)
  have w := sn_ymirl (post := post) t ht l _ A pb (by omega) (fun rb B' => h rb tb _ B') (sn_pt K V S oa ca L a_tText s).length 0 ((sn_pt K V S oa ca L a_tText s).length + 1) a_rbuf (by omega) (by omega) (by
    rw [show sn_ls (fun j => sn_tc (4 + t) j (sn_at (sn_pt K V S oa ca L a_tText s) j)) 0 = [] from rfl, List.append_nil]; exact B)
  rw [show sn_ls (fun j => sn_tc (4 + t) j (sn_at (sn_pt K V S oa ca L a_tText s) j)) 0 = [] from rfl, List.append_nil] at w
  exact ⟨_, w⟩
end SNS
