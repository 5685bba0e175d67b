section SON
theorem sn_uu {f : Nat → Int32} {a : Nat} {x : Int32} : upd (upd f a x) a (f a) = f := by
  funext j
  by_cases e : j = a
  · rw [e, pk_us]
  · rw [pk_un e, pk_un e]
theorem sn_svR (T sv : Nat → Int32) (b i : Nat) (x : Int32) (h1 : b ≤ i) (h2 : i < b + 8) : sn_cp (sn_cp T b sv 0 8) 0 (upd T i x) b 8 = T := by
  funext j
  by_cases z : b ≤ j ∧ j < b + 8
  · obtain ⟨k, rfl⟩ : ∃ k, j = b + k := ⟨j - b, by omega⟩
    rw [sn_cpI (by omega)]
    exact sn_cpI (by omega)
  · rw [sn_cpO (by omega), pk_un (by omega)]
variable {K S oa ca sg dp pa st : Nat → Nat} {V L : Nat → Int32} {c : Nat}
variable {f_cap f_hcap f_len f_caret f_sel f_bodyLen f_sBodyLen f_merge f_session f_selected f_active f_nItems f_finalIdx f_fromStruct f_baseLen f_baseP f_rlen f_tlen f_clearAll f_svF f_svL f_hCount : Int32} {a_buf a_body a_sBody a_typed a_tLen a_tText a_kind a_val a_stopOf a_par a_ipos a_prim a_stack a_occ a_base a_rbuf a_tbuf a_svT a_hist : Nat → Int32}
variable {post : Int32 → SY → Prop}
theorem sn_y168 (P : sn_PI c 0 st K V S oa ca sg dp pa) (hc : c ≤ 65) (Y : sn_YS c K V S oa sg pa f_nItems f_finalIdx a_kind a_val a_stopOf a_par a_prim) (TL : ∀ s, s ≤ 9 → sn_TL (L s) (a_typed s) (a_tLen s)) (x : Int32) (a nl bl cap : Nat) (a1 : 1 ≤ a) (a9 : a ≤ 9) (n1 : 1 ≤ nl) (n8 : nl ≤ 8) (hbl : bl ≤ 64) (hcap : cap ≤ 64)
    (hF : cap < bl + (sn_rr K V S oa ca (upd L a (nI nl)) (upd a_tText (a * 8 + nl - 1) x) c).length → ∀ rl rb tb tl ip sf sl sv, post (-3) (nI cap, f_hcap, f_len, f_caret, f_sel, f_bodyLen, f_sBodyLen, f_merge, f_session, f_selected, f_active, f_nItems, f_finalIdx, f_fromStruct, nI bl, f_baseP, rl, tl, 0, sf, sl, f_hCount, a_buf, a_body, a_sBody, a_typed, a_tLen, a_tText, a_kind, a_val, a_stopOf, a_par, ip, a_prim, a_stack, a_occ, a_base, rb, tb, sv, a_hist))
    (hO : bl + (sn_rr K V S oa ca (upd L a (nI nl)) (upd a_tText (a * 8 + nl - 1) x) c).length ≤ cap → ∀ rl rb tb tl ip sf sl sv, (f_merge = 0 → wpY_push (fun u => match u with | (f_cap, f_hcap, f_len, f_caret, f_sel, f_bodyLen, f_sBodyLen, f_merge, f_session, f_selected, f_active, f_nItems, f_finalIdx, f_fromStruct, f_baseLen, f_baseP, f_rlen, f_tlen, f_clearAll, f_svF, f_svL, f_hCount, a_buf, a_body, a_sBody, a_typed, a_tLen, a_tText, a_kind, a_val, a_stopOf, a_par, a_ipos, a_prim, a_stack, a_occ, a_base, a_rbuf, a_tbuf, a_svT, a_hist) => wY_typeChar_344 post x (nI a) (nI nl) f_cap f_hcap f_len f_caret f_sel f_bodyLen f_sBodyLen f_merge f_session f_selected f_active f_nItems f_finalIdx f_fromStruct f_baseLen f_baseP f_rlen f_tlen f_clearAll f_svF f_svL f_hCount a_buf a_body a_sBody a_typed a_tLen a_tText a_kind a_val a_stopOf a_par a_ipos a_prim a_stack a_occ a_base a_rbuf a_tbuf a_svT a_hist) (nI cap, f_hcap, f_len, f_caret, f_sel, f_bodyLen, f_sBodyLen, f_merge, f_session, f_selected, f_active, f_nItems, f_finalIdx, f_fromStruct, nI bl, f_baseP, rl, tl, 0, sf, sl, f_hCount, a_buf, a_body, a_sBody, a_typed, a_tLen, a_tText, a_kind, a_val, a_stopOf, a_par, ip, a_prim, a_stack, a_occ, a_base, rb, tb, sv, a_hist)) ∧ (¬ f_merge = 0 → wY_typeChar_344 post x (nI a) (nI nl) (nI cap) f_hcap f_len f_caret f_sel f_bodyLen f_sBodyLen f_merge f_session f_selected f_active f_nItems f_finalIdx f_fromStruct (nI bl) f_baseP rl tl 0 sf sl f_hCount a_buf a_body a_sBody a_typed a_tLen a_tText a_kind a_val a_stopOf a_par ip a_prim a_stack a_occ a_base rb tb sv a_hist)) :
    wY_typeChar_168 post x (nI a) (nI nl) (nI cap) f_hcap f_len f_caret f_sel f_bodyLen f_sBodyLen f_merge f_session f_selected f_active f_nItems f_finalIdx f_fromStruct (nI bl) f_baseP f_rlen f_tlen 0 f_svF f_svL f_hCount a_buf a_body a_sBody a_typed a_tLen a_tText a_kind a_val a_stopOf a_par a_ipos a_prim a_stack a_occ a_base a_rbuf a_tbuf a_svT a_hist := by
  have v10 : vp_in (nI a) 10 := vp_in_nI (by omega) (by omega)
  have ca' : (nI a).toNatClampNeg = a := nI_clamp (by omega)
  have tb1 := sn_TLb TL a a9
  have i8 : ∀ j, nI a * 8 + nI j = nI (a * 8 + j) := fun j => by rw [sn_mu a 8 rfl, nI_add]
  have ix : nI a * 8 + nI nl - 1 = nI (a * 8 + nl - 1) := by rw [i8, sn_sb (a * 8 + nl) 1 (by omega) rfl]
  have LLp := sn_YTL (sn_TLy TL)
  have lb := sn_rrB' (V := V) (L := (upd L a (nI nl))) (T := (upd a_tText (a * 8 + nl - 1) x)) (x := c) P hc (sn_LL8 (sn_LLU LLp n8)) (Nat.le_refl c)
  refine ⟨v10, fun sf esf => ⟨?_, ?_, v10, fun sl esl => ?_⟩⟩
  · rw [ca'] at esf
    rw [esf]
    rcases tb1 with b | b <;> rw [b] <;> rfl
  · rw [ca'] at esf
    rw [esf]
    rcases tb1 with b | b <;> rw [b] <;> rfl
  · rw [ca'] at esf esl
    have go : ∀ m j n, j + m = 8 → m < n → wY_typeChar_191 post x (nI a) (nI nl) (nI cap) f_hcap f_len f_caret f_sel f_bodyLen f_sBodyLen f_merge f_session f_selected f_active f_nItems f_finalIdx f_fromStruct (nI bl) f_baseP f_rlen f_tlen 0 sf sl f_hCount n (nI j) a_buf a_body a_sBody a_typed a_tLen a_tText a_kind a_val a_stopOf a_par a_ipos a_prim a_stack a_occ a_base a_rbuf a_tbuf (sn_cp a_tText (a * 8) a_svT 0 j) a_hist := by
      intro m
      induction m with
      | zero =>
        intro j n hi hn
        obtain ⟨n, rfl⟩ : ∃ k, n = k + 1 := ⟨n - 1, by omega⟩
        obtain rfl : j = 8 := by omega
        refine br_t (by decide) ⟨v10, fun ty ety => ?_⟩
        rw [ix]
        refine ⟨vp_in_nI (by omega) (by omega), fun tt ett => ⟨v10, fun tl etl => ?_⟩⟩
        rw [ca', sn_nar1] at ety
        rw [nI_clamp (by omega)] at ett
        rw [ca'] at etl
        subst ety ett etl
        refine sn_yrn P hc Y (sn_TLy (sn_TLU TL n8)) (fun rb tb tl' ip A I => ?_)
        intro x4 ex4
        rw [nI_add] at ex4
        refine ⟨v10, fun ty2 e2 => ⟨v10, fun tl2 e3 => ?_⟩⟩
        have en : vp_nar .boolean sf = sf := by
          rw [esf]
          rcases tb1 with b | b <;> rw [b] <;> rfl
        rw [ca', en, esf, sn_uu] at e2
        rw [ca', esl, sn_uu] at e3
        rw [e2, e3, ex4]
        have go2 : ∀ m j n, j + m = 8 → m < n → wY_typeChar_289 post x (nI a) (nI nl) (nI (bl + (sn_rr K V S oa ca (upd L a (nI nl)) (upd a_tText (a * 8 + nl - 1) x) c).length)) (nI cap) f_hcap f_len f_caret f_sel f_bodyLen f_sBodyLen f_merge f_session f_selected f_active f_nItems f_finalIdx f_fromStruct (nI bl) f_baseP (nI (sn_rr K V S oa ca (upd L a (nI nl)) (upd a_tText (a * 8 + nl - 1) x) c).length) tl' 0 sf sl f_hCount n (nI j) a_buf a_body a_sBody a_typed a_tLen (sn_cp (sn_cp a_tText (a * 8) a_svT 0 8) 0 (upd a_tText (a * 8 + nl - 1) x) (a * 8) j) a_kind a_val a_stopOf a_par ip a_prim a_stack a_occ a_base rb tb (sn_cp a_tText (a * 8) a_svT 0 8) a_hist := by
          intro m
          induction m with
          | zero =>
            intro j n hi hn
            obtain ⟨n, rfl⟩ : ∃ k, n = k + 1 := ⟨n - 1, by omega⟩
            obtain rfl : j = 8 := by omega
            rw [sn_svR a_tText a_svT (a * 8) (a * 8 + nl - 1) x (by omega) (by omega)]
            refine br_t (by decide) ?_
            by_cases z : bl + (sn_rr K V S oa ca (upd L a (nI nl)) (upd a_tText (a * 8 + nl - 1) x) c).length ≤ cap
            · exact br_t (nI_le z (by omega)) (hO z _ rb tb tl' ip sf sl _)
            · exact br_f (nI_ge (by omega) (by omega)) (hF (by omega) _ rb tb tl' ip sf sl _)
          | succ m ih =>
            intro j n hi hn
            obtain ⟨n, rfl⟩ : ∃ k, n = k + 1 := ⟨n - 1, by omega⟩
            refine br_f (nI_ge (a := j) (b := 8) (by omega) (by omega)) ⟨vp_in_nI (by omega) (by omega), ?_⟩
            rw [i8]
            refine ⟨vp_in_nI (by omega) (by omega), fun y ey z ez => ?_⟩
            have w := sn_cpS (sn_cp a_tText (a * 8) a_svT 0 8) 0 (upd a_tText (a * 8 + nl - 1) x) (a * 8) j
            rw [Nat.zero_add] at w
            rw [nI_clamp (by omega), nI_clamp (by omega), w] at ey
            rw [ey, ez, nI_1]
            exact ih (j + 1) n (by omega) (by omega)
        have w := go2 8 0 9 (by omega) (by omega)
        rw [sn_cp0] at w
        exact ⟨_, w⟩
      | succ m ih =>
        intro j n hi hn
        obtain ⟨n, rfl⟩ : ∃ k, n = k + 1 := ⟨n - 1, by omega⟩
        refine br_f (nI_ge (a := j) (b := 8) (by omega) (by omega)) ?_
        rw [i8]
        refine ⟨vp_in_nI (by omega) (by omega), vp_in_nI (by omega) (by omega), fun y ey z ez => ?_⟩
        have w := sn_cpS a_tText (a * 8) a_svT 0 j
        rw [Nat.zero_add] at w
        rw [nI_clamp (by omega), nI_clamp (by omega), w] at ey
        rw [ey, ez, nI_1]
        exact ih (j + 1) n (by omega) (by omega)
    have w := go 8 0 9 (by omega) (by omega)
    rw [sn_cp0] at w
    exact ⟨_, w⟩
theorem sn_y344 (P : sn_PI c 0 st K V S oa ca sg dp pa) (hc : c ≤ 65) (Y : sn_YS c K V S oa sg pa f_nItems f_finalIdx a_kind a_val a_stopOf a_par a_prim) (TL : ∀ s, s ≤ 9 → sn_TL (L s) (a_typed s) (a_tLen s)) (x : Int32) (a nl bl bp : Nat) (hb : bp ≤ bl) (a1 : 1 ≤ a) (a9 : a ≤ 9) (oc : oa a < c) (nh : ¬ sn_hid oa ca L 0 (oa a)) (n1 : 1 ≤ nl) (n8 : nl ≤ 8) (hl : bl + (sn_rr K V S oa ca (upd L a (nI nl)) (upd a_tText (a * 8 + nl - 1) x) c).length ≤ 64)
    (h : ∀ rl rb tb tl ip, post 0 (f_cap, f_hcap, nI (bl + (sn_rr K V S oa ca (upd L a (nI nl)) (upd a_tText (a * 8 + nl - 1) x) c).length), nI (bp + (sn_rr K V S oa ca (upd L a (nI nl)) (upd a_tText (a * 8 + nl - 1) x) (ca a)).length), nI (bp + (sn_rr K V S oa ca (upd L a (nI nl)) (upd a_tText (a * 8 + nl - 1) x) (ca a)).length), f_bodyLen, f_sBodyLen, 1, f_session, 0, f_active, f_nItems, f_finalIdx, f_fromStruct, nI bl, nI bp, rl, tl, 0, f_svF, f_svL, f_hCount, sn_wr a_buf 0 (sn_ls a_base bp ++ sn_rr K V S oa ca (upd L a (nI nl)) (upd a_tText (a * 8 + nl - 1) x) c ++ sn_ls (fun k => a_base (bp + k)) (bl - bp)), a_body, a_sBody, upd a_typed a 1, upd a_tLen a (nI nl), upd a_tText (a * 8 + nl - 1) x, a_kind, a_val, a_stopOf, a_par, ip, a_prim, a_stack, a_occ, a_base, rb, tb, a_svT, a_hist)) :
    wY_typeChar_344 post x (nI a) (nI nl) f_cap f_hcap f_len f_caret f_sel f_bodyLen f_sBodyLen f_merge f_session f_selected f_active f_nItems f_finalIdx f_fromStruct (nI bl) (nI bp) f_rlen f_tlen 0 f_svF f_svL f_hCount a_buf a_body a_sBody a_typed a_tLen a_tText a_kind a_val a_stopOf a_par a_ipos a_prim a_stack a_occ a_base a_rbuf a_tbuf a_svT a_hist := by
  have v10 : vp_in (nI a) 10 := vp_in_nI (by omega) (by omega)
  have ca' : (nI a).toNatClampNeg = a := nI_clamp (by omega)
  have ix : nI a * 8 + nI nl - 1 = nI (a * 8 + nl - 1) := by rw [sn_mu a 8 rfl, nI_add, sn_sb (a * 8 + nl) 1 (by omega) rfl]
  refine ⟨v10, fun ty ety => ?_⟩
  rw [ix]
  refine ⟨vp_in_nI (by omega) (by omega), fun tt ett => ⟨v10, fun tl etl => ?_⟩⟩
  rw [ca', sn_nar1] at ety
  rw [nI_clamp (by omega)] at ett
  rw [ca'] at etl
  subst ety ett etl
  exact sn_ytail (post := fun r u => match u with | (f_cap, f_hcap, f_len, f_caret, f_sel, f_bodyLen, f_sBodyLen, f_merge, f_session, f_selected, f_active, f_nItems, f_finalIdx, f_fromStruct, f_baseLen, f_baseP, f_rlen, f_tlen, f_clearAll, f_svF, f_svL, f_hCount, a_buf, a_body, a_sBody, a_typed, a_tLen, a_tText, a_kind, a_val, a_stopOf, a_par, a_ipos, a_prim, a_stack, a_occ, a_base, a_rbuf, a_tbuf, a_svT, a_hist) => post 0 (f_cap, f_hcap, f_len, r, r, f_bodyLen, f_sBodyLen, 1, f_session, f_selected, f_active, f_nItems, f_finalIdx, f_fromStruct, f_baseLen, f_baseP, f_rlen, f_tlen, f_clearAll, f_svF, f_svL, f_hCount, a_buf, a_body, a_sBody, a_typed, a_tLen, a_tText, a_kind, a_val, a_stopOf, a_par, a_ipos, a_prim, a_stack, a_occ, a_base, a_rbuf, a_tbuf, a_svT, a_hist)) P hc Y (sn_TLy (sn_TLU TL n8)) bp bl a hb a1 a9 oc (sn_nhU nh) hl (fun rl rb tb tl ip => h rl rb tb tl ip)
end SON
section SOPX
variable {K S oa ca sg dp pa st : Nat → Nat} {V : Nat → Int32} {c : Nat}
variable {f_capacity f_historyCap f_length f_caret f_selStart f_bodyLength f_undoDepth f_merge f_itemCount f_baseLength f_basePos f_activeStop f_selected f_draftCount f_depth f_readAt : Int32} {a_text a_body a_history a_itemKind a_itemValue a_openAt a_closeAt a_base a_typedLength a_typedText a_draftKind a_draftValue a_draftOpenAt a_draftCloseAt a_enclosing a_trialLength : Nat → Int32}
theorem sn_x20 {post : Int32 → SX → Prop} (P : sn_PI c 0 st K V S oa ca sg dp pa) (hc : c ≤ 65) (XS : sn_XS c K V oa ca a_itemKind a_itemValue a_openAt a_closeAt) (LL : sn_LL a_typedLength) (x : Int32) (a m cap bl bp hcp dep e dd : Nat) (h16 : hcp ≤ 16) (hed : (dep < hcp ∧ e = 0 ∧ dd = dep) ∨ (dep = hcp ∧ e = 1 ∧ dd + 1 = dep)) (b1 : sn_b1 f_selected)
    (hbb : bp ≤ bl) (hbl : bl ≤ 64) (c64 : cap ≤ 64) (a1 : 1 ≤ a) (a9 : a ≤ 9) (oc : oa a < c) (hm : m < 8)
    (h3 : cap < bl + (sn_rr K V S oa ca (upd a_typedLength a (nI (m + 1))) (upd a_typedText (a * 8 + (m + 1) - 1) x) c).length → ∀ tr, post (-3) (nI cap, nI hcp, f_length, f_caret, f_selStart, f_bodyLength, nI dep, f_merge, nI c, nI bl, nI bp, nI a, f_selected, f_draftCount, f_depth, f_readAt, a_text, a_body, a_history, a_itemKind, a_itemValue, a_openAt, a_closeAt, a_base, a_typedLength, a_typedText, a_draftKind, a_draftValue, a_draftOpenAt, a_draftCloseAt, a_enclosing, tr))
    (h0 : bl + (sn_rr K V S oa ca (upd a_typedLength a (nI (m + 1))) (upd a_typedText (a * 8 + (m + 1) - 1) x) c).length ≤ cap → ∀ tr (xd : Nat) (xh : Nat → Int32), (f_merge = 0 → xd = dd + 1 ∧ sn_xsv a_history xh (159 * e) dd f_length f_caret f_selStart (nI a) f_selected a_text a_typedLength a_typedText) → (¬ f_merge = 0 → xd = dep ∧ xh = a_history) →
      post 0 (nI cap, nI hcp, nI (bl + (sn_rr K V S oa ca (upd a_typedLength a (nI (m + 1))) (upd a_typedText (a * 8 + (m + 1) - 1) x) c).length), nI (bp + (sn_rr K V S oa ca (upd a_typedLength a (nI (m + 1))) (upd a_typedText (a * 8 + (m + 1) - 1) x) (ca a)).length), nI (bp + (sn_rr K V S oa ca (upd a_typedLength a (nI (m + 1))) (upd a_typedText (a * 8 + (m + 1) - 1) x) (ca a)).length), f_bodyLength, nI xd, 1, nI c, nI bl, nI bp, nI a, 0, f_draftCount, f_depth, f_readAt, sn_wr a_text 0 (sn_ls a_base bp ++ sn_rr K V S oa ca (upd a_typedLength a (nI (m + 1))) (upd a_typedText (a * 8 + (m + 1) - 1) x) c ++ sn_ls (fun k => a_base (bp + k)) (bl - bp)), a_body, xh, a_itemKind, a_itemValue, a_openAt, a_closeAt, a_base, upd a_typedLength a (nI (m + 1)), upd a_typedText (a * 8 + (m + 1) - 1) x, a_draftKind, a_draftValue, a_draftOpenAt, a_draftCloseAt, a_enclosing, tr)) :
    wX_typeIntoStop_20 post x (nI m) (nI cap) (nI hcp) f_length f_caret f_selStart f_bodyLength (nI dep) f_merge (nI c) (nI bl) (nI bp) (nI a) f_selected f_draftCount f_depth f_readAt a_text a_body a_history a_itemKind a_itemValue a_openAt a_closeAt a_base a_typedLength a_typedText a_draftKind a_draftValue a_draftOpenAt a_draftCloseAt a_enclosing a_trialLength := by
  have v10 : vp_in (nI a) 10 := vp_in_nI (by omega) (by omega)
  have ca' : (nI a).toNatClampNeg = a := nI_clamp (by omega)
  have LL' := sn_LLU (a := a) (m := m + 1) LL (by omega)
  have i8 : nI a * 8 + nI m = nI (a * 8 + (m + 1) - 1) := by rw [sn_mu a 8 rfl, nI_add]; rfl
  refine br_f (nI_ge (a := m) (b := 8) hm (by omega)) ?_
  refine sn_xfit P hc XS LL (upd a_typedText (a * 8 + (m + 1) - 1) x) a (m + 1) cap bl rfl (nI_1 m) a9 (by omega) c64 hbl (fun le tr => br_f (by decide) ?_) (fun gt tr => br_t rfl (h3 gt tr))
  have X55 : ∀ (xd : Nat) (xh : Nat → Int32), (f_merge = 0 → xd = dd + 1 ∧ sn_xsv a_history xh (159 * e) dd f_length f_caret f_selStart (nI a) f_selected a_text a_typedLength a_typedText) → (¬ f_merge = 0 → xd = dep ∧ xh = a_history) →
      wX_typeIntoStop_55 post x (nI m) (nI cap) (nI hcp) f_length f_caret f_selStart f_bodyLength (nI xd) f_merge (nI c) (nI bl) (nI bp) (nI a) f_selected f_draftCount f_depth f_readAt a_text a_body xh a_itemKind a_itemValue a_openAt a_closeAt a_base a_typedLength a_typedText a_draftKind a_draftValue a_draftOpenAt a_draftCloseAt a_enclosing tr := by
    intro xd xh q1 q2
    unfold wX_typeIntoStop_55
    rw [i8]
    refine ⟨vp_in_nI (by omega) (by omega), fun tt ett => ⟨v10, fun ll ell => ?_⟩⟩
    rw [nI_clamp (by omega)] at ett
    rw [ca', nI_1] at ell
    subst ett ell
    exact sn_xtail P hc XS LL' bp bl a hbb a1 a9 oc (by omega) (h0 le tr xd xh q1 q2)
  by_cases m0 : f_merge = 0
  · refine br_t m0 ?_
    exact sn_xgrp e dd dep hcp h16 hed b1 (fun xh' hx => X55 (dd + 1) xh' (fun _ => ⟨rfl, hx⟩) (fun z => absurd m0 z))
  · exact br_f m0 (X55 dep a_history (fun z => absurd z m0) (fun _ => ⟨rfl, rfl⟩))
end SOPX
section SOP
theorem i_vc_typeChar {k : Nat} {u : SX} {v : SY} (I : i_Rel k u v) (hk : k + 3 ≤ 1538) (v1 : Int32) : wpX_typeChar (fun r u' => wpY_typeChar (fun r' v' => r' = r ∧ i_Rel (k + 3) u' v') v v1) u v1 := by
  refine sn_elim (motive := fun u v => wpX_typeChar (fun r u' => wpY_typeChar (fun r' v' => r' = r ∧ i_Rel (k + 3) u' v') v v1) u v1) ?_ I
  intro cap hc dep n sb bl bp i c d st K V S oa ca sg dp pa f_length f_caret f_selStart f_merge f_itemCount f_activeStop f_selected f_draftCount f_depth f_readAt y_session y_selected y_nItems y_finalIdx y_fromStruct y_rlen y_tlen y_svF y_svL a_text a_body a_history a_itemKind a_itemValue a_openAt a_closeAt a_base a_typedLength a_typedText a_draftKind a_draftValue a_draftOpenAt a_draftCloseAt a_enclosing a_trialLength b_sBody b_typed b_tLen b_kind b_val b_stopOf b_par b_ipos b_prim b_stack b_occ b_rbuf b_tbuf b_svT b_hist R
  have J : i_Rel (k + 3) (nI cap, nI hc, f_length, f_caret, f_selStart, nI n, nI dep, f_merge, f_itemCount, nI bl, nI bp, f_activeStop, f_selected, f_draftCount, f_depth, f_readAt, a_text, a_body, a_history, a_itemKind, a_itemValue, a_openAt, a_closeAt, a_base, a_typedLength, a_typedText, a_draftKind, a_draftValue, a_draftOpenAt, a_draftCloseAt, a_enclosing, a_trialLength) (nI cap, nI hc, f_length, f_caret, f_selStart, nI n, nI sb, f_merge, y_session, y_selected, f_activeStop, y_nItems, y_finalIdx, y_fromStruct, nI bl, nI bp, y_rlen, y_tlen, 0, y_svF, y_svL, nI dep, a_text, a_body, b_sBody, b_typed, b_tLen, a_typedText, b_kind, b_val, b_stopOf, b_par, b_ipos, b_prim, b_stack, b_occ, a_base, b_rbuf, b_tbuf, b_svT, b_hist) := sn_mk R
  have J3 : ∀ rl rb tb tl ip sf sl sv tr, i_Rel (k + 3) (nI cap, nI hc, f_length, f_caret, f_selStart, nI n, nI dep, f_merge, f_itemCount, nI bl, nI bp, f_activeStop, f_selected, f_draftCount, f_depth, f_readAt, a_text, a_body, a_history, a_itemKind, a_itemValue, a_openAt, a_closeAt, a_base, a_typedLength, a_typedText, a_draftKind, a_draftValue, a_draftOpenAt, a_draftCloseAt, a_enclosing, tr) (nI cap, nI hc, f_length, f_caret, f_selStart, nI n, nI sb, f_merge, y_session, y_selected, f_activeStop, y_nItems, y_finalIdx, y_fromStruct, nI bl, nI bp, rl, tl, 0, sf, sl, nI dep, a_text, a_body, b_sBody, b_typed, b_tLen, a_typedText, b_kind, b_val, b_stopOf, b_par, ip, b_prim, b_stack, b_occ, a_base, rb, tb, sv, b_hist) := fun rl rb tb tl ip sf sl sv tr => sn_mk R
  obtain ⟨R1, R2, R3, R4⟩ := R
  have hP : sn_GG sb b_sBody i c d st K V S oa ca sg dp pa f_itemCount y_nItems y_finalIdx a_itemKind a_itemValue a_openAt a_closeAt b_kind b_val b_stopOf b_par b_prim → sn_PI c 0 st K V S oa ca sg dp pa := fun g => (sn_GP R1.2.2.2.2.2.2.1 g).1
  obtain ⟨e, dd, hed, hed1, hed2⟩ := sn_ed (dep := dep) R1.2.2.1 R1.2.2.2.2.1
  have h16 := R1.2.2.2.1
  have SSl : sn_SS (sn_GG sb b_sBody i c d st K V S oa ca sg dp pa f_itemCount y_nItems y_finalIdx a_itemKind a_itemValue a_openAt a_closeAt b_kind b_val b_stopOf b_par b_prim) c K V S oa ca cap bl f_length f_caret f_selStart f_activeStop f_selected f_length f_caret f_selStart y_session f_activeStop y_selected a_text a_text a_typedLength b_typed b_tLen a_typedText a_typedText := ⟨rfl, rfl, rfl, rfl, fun _ _ => rfl, fun _ _ => rfl, R2, R3⟩
  have TB := sn_TLb R2
  obtain ⟨b1, b2, l, q, el, eq, hl, hlc, hS⟩ := R3
  have c64 := R1.2.1
  have hbb := R1.2.2.2.2.2.2.2.1
  have hbl := R1.2.2.2.2.2.2.2.2
  subst el eq
  unfold wpX_typeChar
  refine sn_xcode (fun w => br_t rfl ?_) (fun w1 w2 => br_f (by decide) ?_)
  · rcases w with w | ⟨w1, w2⟩
    · exact br_t w ⟨rfl, J⟩
    · exact br_f w1 (br_f (Int32.not_le.mpr w2) ⟨rfl, J⟩)
  · have w3 : v1 ≤ 126 := Int32.not_lt.mp w2
    rcases hS with ⟨ea, es⟩ | ⟨es, e2, G, a, ea, a1, a9, oc, nh, hs, len⟩
    · subst ea es
      refine sn_xins (fun _ => br_t rfl ?_) (fun z => absurd rfl z)
      by_cases z : l < cap
      · have lt : nI l < nI cap := nI_lt z (by omega)
        refine br_t lt ?_
        by_cases m0 : f_merge = 0
        · refine br_t m0 ?_
          refine sn_xgrp e dd dep hc h16 hed b1 (fun xh' hx => ?_)
          refine sn_xtac v1 q l hl (by omega) ?_
          refine br_f w1 (br_t w3 (br_t rfl (br_t lt (br_t m0 ?_))))
          refine sn_ypush e dd dep hc h16 hed TB (Or.inl rfl) b2 (fun yh' hy => ?_)
          refine sn_ytac v1 q l hl (by omega) ⟨rfl, ?_⟩
          exact sn_mk (dep := dd + 1) ⟨⟨R1.1, R1.2.1, R1.2.2.1, R1.2.2.2.1, by omega, R1.2.2.2.2.2⟩, R2, ⟨b1, b2, l + 1, q + 1, rfl, rfl, by omega, by omega, Or.inl ⟨rfl, rfl⟩⟩, sn_push hP hed1 R4 SSl hx hy⟩
        · refine br_f m0 ?_
          refine sn_xtac v1 q l hl (by omega) ?_
          refine br_f w1 (br_t w3 (br_t rfl (br_t lt (br_f m0 ?_))))
          refine sn_ytac v1 q l hl (by omega) ⟨rfl, ?_⟩
          exact sn_mk ⟨R1, R2, ⟨b1, b2, l + 1, q + 1, rfl, rfl, by omega, by omega, Or.inl ⟨rfl, rfl⟩⟩, R4⟩
      · have nlt : ¬ nI l < nI cap := nI_nlt (by omega) (by omega)
        exact br_f nlt (br_f w1 (br_t w3 (br_t rfl (br_f nlt ⟨rfl, J⟩))))
    · have eI := G.2.1
      subst ea es eI
      obtain ⟨P, c65, h00⟩ := sn_GP R1.2.2.2.2.2.2.1 G
      have XS := G.2.2.1
      have YS := G.2.2.2
      have YT := sn_TLy R2
      have LL := sn_YTL YT
      have na : nI a ≠ -1 := sn_nm1 (by omega)
      have v10 : vp_in (nI a) 10 := vp_in_nI (by omega) (by omega)
      have ca' : (nI a).toNatClampNeg = a := nI_clamp (by omega)
      subst e2
      refine sn_xins (fun z => absurd z na) (fun _ => br_f (by decide) ?_)
      have main : ∀ m : Nat, m < 8 → bl + (sn_rr K V S oa ca (upd a_typedLength a (nI (m + 1))) (upd a_typedText (a * 8 + (m + 1) - 1) v1) c).length ≤ cap → ∀ tr (xd : Nat) (xh : Nat → Int32), (f_merge = 0 → xd = dd + 1 ∧ sn_xsv a_history xh (159 * e) dd (nI l) (nI q) f_selStart (nI a) y_selected a_text a_typedLength a_typedText) → (¬ f_merge = 0 → xd = dep ∧ xh = a_history) →
          wY_typeChar_168 (fun r' v' => r' = 0 ∧ i_Rel (k + 3) (nI cap, nI hc, nI (bl + (sn_rr K V S oa ca (upd a_typedLength a (nI (m + 1))) (upd a_typedText (a * 8 + (m + 1) - 1) v1) c).length), nI (bp + (sn_rr K V S oa ca (upd a_typedLength a (nI (m + 1))) (upd a_typedText (a * 8 + (m + 1) - 1) v1) (ca a)).length), nI (bp + (sn_rr K V S oa ca (upd a_typedLength a (nI (m + 1))) (upd a_typedText (a * 8 + (m + 1) - 1) v1) (ca a)).length), nI n, nI xd, 1, nI c, nI bl, nI bp, nI a, 0, f_draftCount, f_depth, f_readAt, sn_wr a_text 0 (sn_ls a_base bp ++ sn_rr K V S oa ca (upd a_typedLength a (nI (m + 1))) (upd a_typedText (a * 8 + (m + 1) - 1) v1) c ++ sn_ls (fun k => a_base (bp + k)) (bl - bp)), a_body, xh, a_itemKind, a_itemValue, a_openAt, a_closeAt, a_base, upd a_typedLength a (nI (m + 1)), upd a_typedText (a * 8 + (m + 1) - 1) v1, a_draftKind, a_draftValue, a_draftOpenAt, a_draftCloseAt, a_enclosing, tr) v') v1 (nI a) (nI (m + 1)) (nI cap) (nI hc) (nI l) (nI q) f_selStart (nI n) (nI sb) f_merge 1 y_selected (nI a) y_nItems y_finalIdx y_fromStruct (nI bl) (nI bp) y_rlen y_tlen 0 y_svF y_svL (nI dep) a_text a_body b_sBody b_typed b_tLen a_typedText b_kind b_val b_stopOf b_par b_ipos b_prim b_stack b_occ a_base b_rbuf b_tbuf b_svT b_hist := by
        intro m hm le tr xd xh q1 q2
        have nh' := sn_nhU (x := nI (m + 1)) nh
        have h0 := P.1
        have qc : ca a ≤ c := by rcases sn_clo P a with z | z | z <;> omega
        have hl3 := sn_rrM' (K := K) (V := V) (S := S) (oa := oa) (ca := ca) (L := (upd a_typedLength a (nI (m + 1)))) (T := (upd a_typedText (a * 8 + (m + 1) - 1) v1)) qc
        have hl4 := sn_rrLC (V := V) (L := (upd a_typedLength a (nI (m + 1)))) (L' := (upd a_typedLength a (nI (m + 1)))) (T := fun _ => 0) (T' := (upd a_typedText (a * 8 + (m + 1) - 1) v1)) (x := c) P (fun _ _ => rfl) (Nat.le_refl c)
        have SQ' : sn_SQ (sn_GG sb b_sBody i c d st K V S oa ca sg dp pa (nI c) y_nItems y_finalIdx a_itemKind a_itemValue a_openAt a_closeAt b_kind b_val b_stopOf b_par b_prim) c K V S oa ca cap bl (nI (bl + (sn_rr K V S oa ca (upd a_typedLength a (nI (m + 1))) (upd a_typedText (a * 8 + (m + 1) - 1) v1) c).length)) (nI (bp + (sn_rr K V S oa ca (upd a_typedLength a (nI (m + 1))) (upd a_typedText (a * 8 + (m + 1) - 1) v1) (ca a)).length)) (nI a) 0 1 0 (upd a_typedLength a (nI (m + 1))) := ⟨Or.inl rfl, Or.inl rfl, bl + (sn_rr K V S oa ca (upd a_typedLength a (nI (m + 1))) (upd a_typedText (a * 8 + (m + 1) - 1) v1) c).length, bp + (sn_rr K V S oa ca (upd a_typedLength a (nI (m + 1))) (upd a_typedText (a * 8 + (m + 1) - 1) v1) (ca a)).length, rfl, rfl, by omega, by omega, Or.inr ⟨rfl, rfl, G, a, rfl, a1, a9, oc, nh', fun _ => by rw [pk_us]; exact sn_nm1 (by omega), by rw [hl4]⟩⟩
        refine sn_y168 P c65 YS R2 v1 a (m + 1) bl cap a1 a9 (by omega) (by omega) hbl c64 (fun gt => absurd gt (by omega)) (fun _ rl rb tb tl ip sf sl sv => ?_)
        by_cases m0 : f_merge = 0
        · obtain ⟨rfl, hx⟩ := q1 m0
          refine br_t m0 ?_
          refine sn_ypush e dd dep hc h16 hed TB (Or.inr rfl) b2 (fun yh' hy => ?_)
          refine sn_y344 P c65 YS R2 v1 a (m + 1) bl bp hbb a1 a9 oc nh (by omega) (by omega) (by omega) (fun rl rb tb tl ip => ⟨rfl, ?_⟩)
          exact sn_mk (dep := dd + 1) ⟨⟨R1.1, R1.2.1, R1.2.2.1, R1.2.2.2.1, by omega, R1.2.2.2.2.2⟩, sn_TLU R2 (by omega), SQ', sn_push hP hed1 R4 SSl hx hy⟩
        · obtain ⟨rfl, rfl⟩ := q2 m0
          refine br_f m0 ?_
          refine sn_y344 P c65 YS R2 v1 a (m + 1) bl bp hbb a1 a9 oc nh (by omega) (by omega) (by omega) (fun rl rb tb tl ip => ⟨rfl, ?_⟩)
          exact sn_mk ⟨R1, sn_TLU R2 (by omega), SQ', R4⟩
      have full : ∀ m : Nat, m < 8 → cap < bl + (sn_rr K V S oa ca (upd a_typedLength a (nI (m + 1))) (upd a_typedText (a * 8 + (m + 1) - 1) v1) c).length → ∀ tr, wY_typeChar_168 (fun r' v' => r' = -3 ∧ i_Rel (k + 3) (nI cap, nI hc, nI l, nI q, f_selStart, nI n, nI dep, f_merge, nI c, nI bl, nI bp, nI a, y_selected, f_draftCount, f_depth, f_readAt, a_text, a_body, a_history, a_itemKind, a_itemValue, a_openAt, a_closeAt, a_base, a_typedLength, a_typedText, a_draftKind, a_draftValue, a_draftOpenAt, a_draftCloseAt, a_enclosing, tr) v') v1 (nI a) (nI (m + 1)) (nI cap) (nI hc) (nI l) (nI q) f_selStart (nI n) (nI sb) f_merge 1 y_selected (nI a) y_nItems y_finalIdx y_fromStruct (nI bl) (nI bp) y_rlen y_tlen 0 y_svF y_svL (nI dep) a_text a_body b_sBody b_typed b_tLen a_typedText b_kind b_val b_stopOf b_par b_ipos b_prim b_stack b_occ a_base b_rbuf b_tbuf b_svT b_hist := by
        intro m hm gt tr
        exact sn_y168 P c65 YS R2 v1 a (m + 1) bl cap a1 a9 (by omega) (by omega) hbl c64 (fun _ rl rb tb tl ip sf sl sv => ⟨rfl, J3 rl rb tb tl ip sf sl sv tr⟩) (fun le => absurd le (by omega))
      by_cases s0 : y_selected = 0
      · have la := hs s0
        rcases R2 a a9 with ⟨w, _, _⟩ | ⟨m, hm, tm, tt, tn⟩
        · exact absurd w la
        · refine br_t s0 ⟨v10, ?_⟩
          rw [ca', tm]
          by_cases m8 : m < 8
          · have YE : ∀ post : Int32 → SY → Prop, wY_typeChar_168 post v1 (nI a) (nI (m + 1)) (nI cap) (nI hc) (nI l) (nI q) f_selStart (nI n) (nI sb) f_merge 1 y_selected (nI a) y_nItems y_finalIdx y_fromStruct (nI bl) (nI bp) y_rlen y_tlen 0 y_svF y_svL (nI dep) a_text a_body b_sBody b_typed b_tLen a_typedText b_kind b_val b_stopOf b_par b_ipos b_prim b_stack b_occ a_base b_rbuf b_tbuf b_svT b_hist → wpY_typeChar post (nI cap, nI hc, nI l, nI q, f_selStart, nI n, nI sb, f_merge, 1, y_selected, nI a, y_nItems, y_finalIdx, y_fromStruct, nI bl, nI bp, y_rlen, y_tlen, 0, y_svF, y_svL, nI dep, a_text, a_body, b_sBody, b_typed, b_tLen, a_typedText, b_kind, b_val, b_stopOf, b_par, b_ipos, b_prim, b_stack, b_occ, a_base, b_rbuf, b_tbuf, b_svT, b_hist) v1 := by
              intro post hp
              refine br_f w1 (br_t w3 (br_f (by decide) (br_t s0 ⟨v10, ?_⟩)))
              rw [ca', tn]
              refine br_t (nI_lt (b := 8) m8 (by omega)) ⟨v10, fun y ey => ?_⟩
              rw [nI_1] at ey
              subst ey
              exact hp
            exact sn_x20 P c65 XS LL v1 a m cap bl bp hc dep e dd h16 hed b1 hbb hbl c64 a1 a9 oc m8 (fun gt tr => YE _ (full m m8 gt tr)) (fun le tr xd xh q1 q2 => YE _ (main m m8 le tr xd xh q1 q2))
          · refine br_t (nI_le (a := 8) (by omega) (by omega)) (br_f w1 (br_t w3 (br_f (by decide) (br_t s0 ⟨v10, ?_⟩))))
            rw [ca', tn]
            exact br_f (nI_nlt (b := 8) (by omega) (by omega)) ⟨rfl, J⟩
      · have YE : ∀ post : Int32 → SY → Prop, wY_typeChar_168 post v1 (nI a) (nI (0 + 1)) (nI cap) (nI hc) (nI l) (nI q) f_selStart (nI n) (nI sb) f_merge 1 y_selected (nI a) y_nItems y_finalIdx y_fromStruct (nI bl) (nI bp) y_rlen y_tlen 0 y_svF y_svL (nI dep) a_text a_body b_sBody b_typed b_tLen a_typedText b_kind b_val b_stopOf b_par b_ipos b_prim b_stack b_occ a_base b_rbuf b_tbuf b_svT b_hist → wpY_typeChar post (nI cap, nI hc, nI l, nI q, f_selStart, nI n, nI sb, f_merge, 1, y_selected, nI a, y_nItems, y_finalIdx, y_fromStruct, nI bl, nI bp, y_rlen, y_tlen, 0, y_svF, y_svL, nI dep, a_text, a_body, b_sBody, b_typed, b_tLen, a_typedText, b_kind, b_val, b_stopOf, b_par, b_ipos, b_prim, b_stack, b_occ, a_base, b_rbuf, b_tbuf, b_svT, b_hist) v1 :=
          fun post hp => br_f w1 (br_t w3 (br_f (by decide) (br_f s0 hp)))
        refine br_f s0 ?_
        exact sn_x20 P c65 XS LL v1 a 0 cap bl bp hc dep e dd h16 hed b1 hbb hbl c64 a1 a9 oc (by omega) (fun gt tr => YE _ (full 0 (by omega) gt tr)) (fun le tr xd xh q1 q2 => YE _ (main 0 (by omega) le tr xd xh q1 q2))
end SOP
