section SOK
theorem sn_ed {dep hc : Nat} (h1 : 1 ≤ hc) (h : dep ≤ hc) : ∃ e d, ((dep < hc ∧ e = 0 ∧ d = dep) ∨ (dep = hc ∧ e = 1 ∧ d + 1 = dep)) ∧ d + e ≤ dep ∧ d + 1 ≤ hc := by
  by_cases z : dep < hc
  · exact ⟨0, dep, Or.inl ⟨z, rfl, rfl⟩, by omega, by omega⟩
  · exact ⟨1, dep - 1, Or.inr ⟨by omega, rfl, by omega⟩, by omega, by omega⟩
theorem sn_nhU {oa ca : Nat → Nat} {L : Nat → Int32} {a : Nat} {x : Int32} (h : ¬ sn_hid oa ca L 0 (oa a)) : ¬ sn_hid oa ca (upd L a x) 0 (oa a) := by
  intro ⟨t, t1, t9, tl, tf, to, tc⟩
  have e : t ≠ a := fun e => by rw [e] at to; omega
  rw [pk_un e] at tl
  exact h ⟨t, t1, t9, tl, tf, to, tc⟩
theorem sn_LLU {L : Nat → Int32} {a m : Nat} (h : sn_LL L) (hm : m ≤ 8) : sn_LL (upd L a (nI m)) := by
  intro s hs
  by_cases e : s = a
  · rw [e, pk_us]; exact Or.inr ⟨m, hm, rfl⟩
  · rw [pk_un e]; exact h s hs
theorem sn_TLU {L ty tl : Nat → Int32} {a m : Nat} (h : ∀ s, s ≤ 9 → sn_TL (L s) (ty s) (tl s)) (hm : m ≤ 8) : ∀ s, s ≤ 9 → sn_TL (upd L a (nI m) s) (upd ty a 1 s) (upd tl a (nI m) s) := by
  intro s hs
  by_cases e : s = a
  · rw [e, pk_us, pk_us, pk_us]; exact Or.inr ⟨m, hm, rfl, rfl, rfl⟩
  · rw [pk_un e, pk_un e, pk_un e]; exact h s hs
variable {K S oa ca sg dp pa st : Nat → Nat} {V : Nat → Int32} {c : Nat}
variable {f_capacity f_historyCap f_length f_caret f_selStart f_bodyLength f_undoDepth f_merge f_itemCount f_baseLength f_basePos f_activeStop f_selected f_draftCount f_depth f_readAt : Int32} {a_text a_body a_history a_itemKind a_itemValue a_openAt a_closeAt a_base a_typedLength a_typedText a_draftKind a_draftValue a_draftOpenAt a_draftCloseAt a_enclosing a_trialLength : Nat → Int32}
theorem sn_xleave {post : SX → Prop} (P : sn_PI c 0 st K V S oa ca sg dp pa) (hc : c ≤ 65) (XS : sn_XS c K V oa ca a_itemKind a_itemValue a_openAt a_closeAt) (hL : sn_LL a_typedLength) (bp a : Nat) (a1 : 1 ≤ a) (a9 : a ≤ 9) (oc : oa a < c)
    (h : post (f_capacity, f_historyCap, f_length, nI (bp + (sn_rr K V S oa ca a_typedLength a_typedText (ca a)).length), nI (bp + (sn_rr K V S oa ca a_typedLength a_typedText (ca a)).length), f_bodyLength, f_undoDepth, f_merge, f_itemCount, f_baseLength, nI bp, nI a, 0, f_draftCount, f_depth, f_readAt, a_text, a_body, a_history, a_itemKind, a_itemValue, a_openAt, a_closeAt, a_base, a_typedLength, a_typedText, a_draftKind, a_draftValue, a_draftOpenAt, a_draftCloseAt, a_enclosing, a_trialLength)) :
    wpX_leaveCaretAfterStop post (f_capacity, f_historyCap, f_length, f_caret, f_selStart, f_bodyLength, f_undoDepth, f_merge, f_itemCount, f_baseLength, nI bp, nI a, f_selected, f_draftCount, f_depth, f_readAt, a_text, a_body, a_history, a_itemKind, a_itemValue, a_openAt, a_closeAt, a_base, a_typedLength, a_typedText, a_draftKind, a_draftValue, a_draftOpenAt, a_draftCloseAt, a_enclosing, a_trialLength) := by
  have h0 := P.1
  have q : oa a < ca a ∧ ca a < c := by rcases sn_clo P a with z | z | z <;> omega
  refine ⟨vp_in_nI (by omega) (by omega), ?_⟩
  rw [nI_clamp (by omega)]
  exact sn_xpos P hc XS hL a_typedText bp (ca a) (by rw [XS.2.2 a a9, sn_o1 (by omega)]) (by omega) h
theorem sn_xtail {post : SX → Prop} (P : sn_PI c 0 st K V S oa ca sg dp pa) (hc : c ≤ 65) (XS : sn_XS c K V oa ca a_itemKind a_itemValue a_openAt a_closeAt) (hL : sn_LL a_typedLength) (bp bl a : Nat) (hb : bp ≤ bl) (a1 : 1 ≤ a) (a9 : a ≤ 9) (oc : oa a < c) (hl : bl + (sn_rr K V S oa ca a_typedLength a_typedText c).length ≤ 64)
    (h : post (f_capacity, f_historyCap, nI (bl + (sn_rr K V S oa ca a_typedLength a_typedText c).length), nI (bp + (sn_rr K V S oa ca a_typedLength a_typedText (ca a)).length), nI (bp + (sn_rr K V S oa ca a_typedLength a_typedText (ca a)).length), f_bodyLength, f_undoDepth, f_merge, nI c, nI bl, nI bp, nI a, 0, f_draftCount, f_depth, f_readAt, sn_wr a_text 0 (sn_ls a_base bp ++ sn_rr K V S oa ca a_typedLength a_typedText c ++ sn_ls (fun k => a_base (bp + k)) (bl - bp)), a_body, a_history, a_itemKind, a_itemValue, a_openAt, a_closeAt, a_base, a_typedLength, a_typedText, a_draftKind, a_draftValue, a_draftOpenAt, a_draftCloseAt, a_enclosing, a_trialLength)) :
    wpX_rewriteText (fun u => match u with | (f_capacity, f_historyCap, f_length, f_caret, f_selStart, f_bodyLength, f_undoDepth, f_merge, f_itemCount, f_baseLength, f_basePos, f_activeStop, f_selected, f_draftCount, f_depth, f_readAt, a_text, a_body, a_history, a_itemKind, a_itemValue, a_openAt, a_closeAt, a_base, a_typedLength, a_typedText, a_draftKind, a_draftValue, a_draftOpenAt, a_draftCloseAt, a_enclosing, a_trialLength) => wpX_leaveCaretAfterStop post (f_capacity, f_historyCap, f_length, f_caret, f_selStart, f_bodyLength, f_undoDepth, f_merge, f_itemCount, f_baseLength, f_basePos, f_activeStop, f_selected, f_draftCount, f_depth, f_readAt, a_text, a_body, a_history, a_itemKind, a_itemValue, a_openAt, a_closeAt, a_base, a_typedLength, a_typedText, a_draftKind, a_draftValue, a_draftOpenAt, a_draftCloseAt, a_enclosing, a_trialLength)) (f_capacity, f_historyCap, f_length, f_caret, f_selStart, f_bodyLength, f_undoDepth, f_merge, nI c, nI bl, nI bp, nI a, f_selected, f_draftCount, f_depth, f_readAt, a_text, a_body, a_history, a_itemKind, a_itemValue, a_openAt, a_closeAt, a_base, a_typedLength, a_typedText, a_draftKind, a_draftValue, a_draftOpenAt, a_draftCloseAt, a_enclosing, a_trialLength) :=
  sn_xrw P hc XS hL bp bl hb hl (sn_xleave P hc XS hL bp a a1 a9 oc h)
end SOK
section SOL
variable {K S oa ca sg dp pa st : Nat → Nat} {V L : Nat → Int32} {c : Nat}
variable {f_cap f_hcap f_len f_caret f_sel f_bodyLen f_sBodyLen f_merge f_session f_selected f_active f_nItems f_finalIdx f_fromStruct f_baseLen f_baseP f_rlen f_tlen f_clearAll f_svF f_svL f_hCount : Int32} {a_buf a_body a_sBody a_typed a_tLen a_tText a_kind a_val a_stopOf a_par a_ipos a_prim a_stack a_occ a_base a_rbuf a_tbuf a_svT a_hist : Nat → Int32}
theorem sn_ytail {post : Int32 → SY → Prop} (P : sn_PI c 0 st K V S oa ca sg dp pa) (hc : c ≤ 65) (Y : sn_YS c K V S oa sg pa f_nItems f_finalIdx a_kind a_val a_stopOf a_par a_prim) (T : sn_YT f_clearAll a_typed a_tLen L) (bp bl a : Nat) (hb : bp ≤ bl) (a1 : 1 ≤ a) (a9 : a ≤ 9) (oc : oa a < c) (nh : ¬ sn_hid oa ca L 0 (oa a)) (hl : bl + (sn_rr K V S oa ca L a_tText c).length ≤ 64)
    (h : ∀ rl rb tb tl ip, post (nI (bp + (sn_rr K V S oa ca L a_tText (ca a)).length)) (f_cap, f_hcap, nI (bl + (sn_rr K V S oa ca L a_tText c).length), f_caret, f_sel, f_bodyLen, f_sBodyLen, f_merge, f_session, f_selected, f_active, f_nItems, f_finalIdx, f_fromStruct, nI bl, nI bp, rl, tl, f_clearAll, f_svF, f_svL, f_hCount, sn_wr a_buf 0 (sn_ls a_base bp ++ sn_rr K V S oa ca L a_tText c ++ sn_ls (fun k => a_base (bp + k)) (bl - bp)), a_body, a_sBody, a_typed, a_tLen, a_tText, a_kind, a_val, a_stopOf, a_par, ip, a_prim, a_stack, a_occ, a_base, rb, tb, a_svT, a_hist)) :
    wpY_rebuild (fun u => match u with | (f_cap, f_hcap, f_len, f_caret, f_sel, f_bodyLen, f_sBodyLen, f_merge, f_session, f_selected, f_active, f_nItems, f_finalIdx, f_fromStruct, f_baseLen, f_baseP, f_rlen, f_tlen, f_clearAll, f_svF, f_svL, f_hCount, a_buf, a_body, a_sBody, a_typed, a_tLen, a_tText, a_kind, a_val, a_stopOf, a_par, a_ipos, a_prim, a_stack, a_occ, a_base, a_rbuf, a_tbuf, a_svT, a_hist) => wpY_endOf (fun r u => match u with | (f_cap, f_hcap, f_len, f_caret, f_sel, f_bodyLen, f_sBodyLen, f_merge, f_session, f_selected, f_active, f_nItems, f_finalIdx, f_fromStruct, f_baseLen, f_baseP, f_rlen, f_tlen, f_clearAll, f_svF, f_svL, f_hCount, a_buf, a_body, a_sBody, a_typed, a_tLen, a_tText, a_kind, a_val, a_stopOf, a_par, a_ipos, a_prim, a_stack, a_occ, a_base, a_rbuf, a_tbuf, a_svT, a_hist) => post r (f_cap, f_hcap, f_len, f_caret, f_sel, f_bodyLen, f_sBodyLen, f_merge, f_session, f_selected, f_active, f_nItems, f_finalIdx, f_fromStruct, f_baseLen, f_baseP, f_rlen, f_tlen, f_clearAll, f_svF, f_svL, f_hCount, a_buf, a_body, a_sBody, a_typed, a_tLen, a_tText, a_kind, a_val, a_stopOf, a_par, a_ipos, a_prim, a_stack, a_occ, a_base, a_rbuf, a_tbuf, a_svT, a_hist)) (f_cap, f_hcap, f_len, f_caret, f_sel, f_bodyLen, f_sBodyLen, f_merge, f_session, f_selected, f_active, f_nItems, f_finalIdx, f_fromStruct, f_baseLen, f_baseP, f_rlen, f_tlen, f_clearAll, f_svF, f_svL, f_hCount, a_buf, a_body, a_sBody, a_typed, a_tLen, a_tText, a_kind, a_val, a_stopOf, a_par, a_ipos, a_prim, a_stack, a_occ, a_base, a_rbuf, a_tbuf, a_svT, a_hist) (nI a)) (f_cap, f_hcap, f_len, f_caret, f_sel, f_bodyLen, f_sBodyLen, f_merge, f_session, f_selected, f_active, f_nItems, f_finalIdx, f_fromStruct, nI bl, nI bp, f_rlen, f_tlen, f_clearAll, f_svF, f_svL, f_hCount, a_buf, a_body, a_sBody, a_typed, a_tLen, a_tText, a_kind, a_val, a_stopOf, a_par, a_ipos, a_prim, a_stack, a_occ, a_base, a_rbuf, a_tbuf, a_svT, a_hist) :=
  sn_yrb P hc Y T bp bl hb hl (fun rl rb tb tl ip => sn_yen P hc Y T bp a rfl a1 a9 oc nh (fun rl rb tb tl ip => h rl rb tb tl ip))
end SOL
section SOM
theorem i_vc_backspace {k : Nat} {u : SX} {v : SY} (I : i_Rel k u v) (hk : k + 3 ≤ 1538) : wpX_backspace (fun r u' => wpY_backspace (fun r' v' => r' = r ∧ i_Rel (k + 3) u' v') v) u := by
  refine sn_elim (motive := fun u v => wpX_backspace (fun r u' => wpY_backspace (fun r' v' => r' = r ∧ i_Rel (k + 3) u' v') v) u) ?_ I
  intro cap hc dep n sb bl bp i c d st K V S oa ca sg dp pa f_length f_caret f_selStart f_merge f_itemCount f_activeStop f_selected f_draftCount f_depth f_readAt y_session y_selected y_nItems y_finalIdx y_fromStruct y_rlen y_tlen y_svF y_svL a_text a_body a_history a_itemKind a_itemValue a_openAt a_closeAt a_base a_typedLength a_typedText a_draftKind a_draftValue a_draftOpenAt a_draftCloseAt a_enclosing a_trialLength b_sBody b_typed b_tLen b_kind b_val b_stopOf b_par b_ipos b_prim b_stack b_occ b_rbuf b_tbuf b_svT b_hist R
  have J : i_Rel (k + 3) (nI cap, nI hc, f_length, f_caret, f_selStart, nI n, nI dep, f_merge, f_itemCount, nI bl, nI bp, f_activeStop, f_selected, f_draftCount, f_depth, f_readAt, a_text, a_body, a_history, a_itemKind, a_itemValue, a_openAt, a_closeAt, a_base, a_typedLength, a_typedText, a_draftKind, a_draftValue, a_draftOpenAt, a_draftCloseAt, a_enclosing, a_trialLength) (nI cap, nI hc, f_length, f_caret, f_selStart, nI n, nI sb, f_merge, y_session, y_selected, f_activeStop, y_nItems, y_finalIdx, y_fromStruct, nI bl, nI bp, y_rlen, y_tlen, 0, y_svF, y_svL, nI dep, a_text, a_body, b_sBody, b_typed, b_tLen, a_typedText, b_kind, b_val, b_stopOf, b_par, b_ipos, b_prim, b_stack, b_occ, a_base, b_rbuf, b_tbuf, b_svT, b_hist) := sn_mk R
  obtain ⟨R1, R2, R3, R4⟩ := R
  have hP : sn_GG sb b_sBody i c d st K V S oa ca sg dp pa f_itemCount y_nItems y_finalIdx a_itemKind a_itemValue a_openAt a_closeAt b_kind b_val b_stopOf b_par b_prim → sn_PI c 0 st K V S oa ca sg dp pa := fun g => (sn_GP R1.2.2.2.2.2.2.1 g).1
  obtain ⟨e, dd, hed, hed1, hed2⟩ := sn_ed (dep := dep) R1.2.2.1 R1.2.2.2.2.1
  have h16 := R1.2.2.2.1
  have SSl : sn_SS (sn_GG sb b_sBody i c d st K V S oa ca sg dp pa f_itemCount y_nItems y_finalIdx a_itemKind a_itemValue a_openAt a_closeAt b_kind b_val b_stopOf b_par b_prim) c K V S oa ca cap bl f_length f_caret f_selStart f_activeStop f_selected f_length f_caret f_selStart y_session f_activeStop y_selected a_text a_text a_typedLength b_typed b_tLen a_typedText a_typedText := ⟨rfl, rfl, rfl, rfl, fun _ _ => rfl, fun _ _ => rfl, R2, R3⟩
  have TB := sn_TLb R2
  obtain ⟨b1, b2, l, q, el, eq, hl, hlc, hS⟩ := R3
  have c64 := R1.2.1
  have hbb := R1.2.2.2.2.2.2.2.1
  subst el eq
  unfold wpX_backspace
  rcases hS with ⟨ea, es⟩ | ⟨es, e2, G, a, ea, a1, a9, oc, nh, hs, len⟩
  · subst ea es
    refine sn_xins (fun _ => br_t rfl ?_) (fun z => absurd rfl z)
    by_cases z : q = 0
    · have e0 : nI q = 0 := by rw [z]; rfl
      exact br_t e0 (br_t rfl (br_t e0 ⟨rfl, J⟩))
    · have ne : ¬ nI q = 0 := nI_ne0 (by omega) (by omega)
      refine br_f ne ?_
      refine sn_xgrp e dd dep hc h16 hed b1 (fun xh' hx => ?_)
      refine sn_xc_text_text q (q - 1) (l - q) rfl (sn_sb q 1 (by omega) rfl) (pk_sub hl) (by omega) (by omega) (by omega) ?_
      intro y ey
      rw [sn_sb l 1 (by omega) rfl] at ey
      subst ey
      rw [sn_sb q 1 (by omega) rfl]
      refine br_t rfl (br_f ne ?_)
      refine sn_ypush e dd dep hc h16 hed TB (Or.inl rfl) b2 (fun yh' hy => ?_)
      intro y ey
      rw [ey, sn_sb q 1 (by omega) rfl]
      refine sn_ybac q l (by omega) hl (by omega) ⟨rfl, ?_⟩
      exact sn_mk (dep := dd + 1) ⟨⟨R1.1, R1.2.1, R1.2.2.1, R1.2.2.2.1, by omega, R1.2.2.2.2.2⟩, R2, ⟨b1, b2, l - 1, q - 1, rfl, rfl, by omega, by omega, Or.inl ⟨rfl, rfl⟩⟩, sn_push hP hed1 R4 SSl hx hy⟩
  · have eI := G.2.1
    subst ea es eI
    obtain ⟨P, c65, h00⟩ := sn_GP R1.2.2.2.2.2.2.1 G
    have XS := G.2.2.1
    have YS := G.2.2.2
    have YT := sn_TLy R2
    have LL := sn_YTL YT
    have na : nI a ≠ -1 := sn_nm1 (by omega)
    have v10 : vp_in (nI a) 10 := vp_in_nI (by omega) (by omega)
    have ca' : (nI a).toNatClampNeg = a := nI_clamp (by omega)
    subst e2
    refine sn_xins (fun z => absurd z na) (fun _ => br_f (by decide) ?_)
    have MO : ∀ m : Nat, m ≤ 8 → (∀ s, s ≤ 9 → (upd a_typedLength a (nI m) s).toNatClampNeg ≤ (a_typedLength s).toNatClampNeg) → bl + (sn_rr K V S oa ca (upd a_typedLength a (nI m)) a_typedText c).length ≤ l ∧ (sn_rr K V S oa ca (upd a_typedLength a (nI m)) a_typedText (ca a)).length ≤ (sn_rr K V S oa ca (upd a_typedLength a (nI m)) a_typedText c).length ∧ (sn_rr K V S oa ca (upd a_typedLength a (nI m)) a_typedText c).length = (sn_rr K V S oa ca (upd a_typedLength a (nI m)) (fun _ => 0) c).length := by
      intro m hm hmo
      have hl1 := sn_rrMo (V := V) (T := fun _ => 0) (T' := a_typedText) (x := c) P (fun s hs z => by
        by_cases w : s = a
        · rw [w, pk_us]; exact sn_nm1 (by omega)
        · rw [pk_un w]; exact z) hmo (Nat.le_refl c)
      have h0 := P.1
      have qc : ca a ≤ c := by rcases sn_clo P a with z | z | z <;> omega
      exact ⟨by omega, sn_rrM' qc, sn_rrLC (V := V) (L := upd a_typedLength a (nI m)) (L' := upd a_typedLength a (nI m)) (T := fun _ => 0) (T' := a_typedText) (x := c) P (fun _ _ => rfl) (Nat.le_refl c)⟩
    have fin : ∀ (m : Nat) (ty tl : Nat → Int32), m ≤ 8 → (∀ s, s ≤ 9 → sn_TL (upd a_typedLength a (nI m) s) (ty s) (tl s)) → (∀ s, s ≤ 9 → (upd a_typedLength a (nI m) s).toNatClampNeg ≤ (a_typedLength s).toNatClampNeg) →
        ∀ xh' yh', sn_xsv a_history xh' (159 * e) dd (nI l) (nI q) f_selStart (nI a) y_selected a_text a_typedLength a_typedText → sn_ysv b_hist yh' (170 * e) dd (nI l) (nI q) f_selStart 1 (nI a) y_selected a_text b_typed b_tLen a_typedText →
        wY_backspace_162 (fun r' v' => r' = 0 ∧ i_Rel (k + 3) (nI cap, nI hc, nI (bl + (sn_rr K V S oa ca (upd a_typedLength a (nI m)) a_typedText c).length), nI (bp + (sn_rr K V S oa ca (upd a_typedLength a (nI m)) a_typedText (ca a)).length), nI (bp + (sn_rr K V S oa ca (upd a_typedLength a (nI m)) a_typedText (ca a)).length), nI n, nI (dd + 1), 0, nI c, nI bl, nI bp, nI a, 0, f_draftCount, f_depth, f_readAt, sn_wr a_text 0 (sn_ls a_base bp ++ sn_rr K V S oa ca (upd a_typedLength a (nI m)) a_typedText c ++ sn_ls (fun k => a_base (bp + k)) (bl - bp)), a_body, xh', a_itemKind, a_itemValue, a_openAt, a_closeAt, a_base, upd a_typedLength a (nI m), a_typedText, a_draftKind, a_draftValue, a_draftOpenAt, a_draftCloseAt, a_enclosing, a_trialLength) v') (nI a) (nI cap) (nI hc) (nI l) (nI q) f_selStart (nI n) (nI sb) f_merge 1 y_selected (nI a) y_nItems y_finalIdx y_fromStruct (nI bl) (nI bp) y_rlen y_tlen 0 y_svF y_svL (nI (dd + 1)) a_text a_body b_sBody ty tl a_typedText b_kind b_val b_stopOf b_par b_ipos b_prim b_stack b_occ a_base b_rbuf b_tbuf b_svT yh' := by
      intro m ty tl hm hTL hmo xh' yh' hx hy
      have YT' := sn_TLy hTL
      have nh' := sn_nhU (x := nI m) nh
      obtain ⟨hl2, hl3, hl4⟩ := MO m hm hmo
      unfold wY_backspace_162
      refine sn_ytail (post := fun r u => match u with | (f_cap, f_hcap, f_len, f_caret, f_sel, f_bodyLen, f_sBodyLen, f_merge, f_session, f_selected, f_active, f_nItems, f_finalIdx, f_fromStruct, f_baseLen, f_baseP, f_rlen, f_tlen, f_clearAll, f_svF, f_svL, f_hCount, a_buf, a_body, a_sBody, a_typed, a_tLen, a_tText, a_kind, a_val, a_stopOf, a_par, a_ipos, a_prim, a_stack, a_occ, a_base, a_rbuf, a_tbuf, a_svT, a_hist) => 0 = (0 : Int32) ∧ i_Rel (k + 3) _ (f_cap, f_hcap, f_len, r, r, f_bodyLen, f_sBodyLen, 0, f_session, f_selected, f_active, f_nItems, f_finalIdx, f_fromStruct, f_baseLen, f_baseP, f_rlen, f_tlen, f_clearAll, f_svF, f_svL, f_hCount, a_buf, a_body, a_sBody, a_typed, a_tLen, a_tText, a_kind, a_val, a_stopOf, a_par, a_ipos, a_prim, a_stack, a_occ, a_base, a_rbuf, a_tbuf, a_svT, a_hist)) P c65 YS YT' bp bl a hbb a1 a9 oc nh' (by omega) (fun rl rb tb tl' ip => ⟨rfl, ?_⟩)
      exact sn_mk (dep := dd + 1) ⟨⟨R1.1, R1.2.1, R1.2.2.1, R1.2.2.2.1, by omega, R1.2.2.2.2.2⟩, hTL, ⟨Or.inl rfl, Or.inl rfl, bl + (sn_rr K V S oa ca (upd a_typedLength a (nI m)) a_typedText c).length, bp + (sn_rr K V S oa ca (upd a_typedLength a (nI m)) a_typedText (ca a)).length, rfl, rfl, by omega, by omega, Or.inr ⟨rfl, rfl, G, a, rfl, a1, a9, oc, nh', fun _ => by rw [pk_us]; exact sn_nm1 (by omega), by rw [hl4]⟩⟩, sn_push hP hed1 R4 SSl hx hy⟩
    by_cases s0 : y_selected = 0
    · have la := hs s0
      rcases R2 a a9 with ⟨w, _, _⟩ | ⟨m, hm, tm, tt, tn⟩
      · exact absurd w la
      · refine br_t s0 ⟨v10, ?_⟩
        rw [ca', tm]
        by_cases m0 : m = 0
        · have e0 : nI m = 0 := by rw [m0]; rfl
          refine br_t e0 (br_f (by decide) (br_t s0 ⟨v10, ?_⟩))
          rw [ca', tn]
          exact br_t e0 ⟨rfl, J⟩
        · have ne : ¬ nI m = 0 := nI_ne0 (by omega) (by omega)
          have mo : ∀ s, s ≤ 9 → (upd a_typedLength a (nI (m - 1)) s).toNatClampNeg ≤ (a_typedLength s).toNatClampNeg := by
            intro s hs
            by_cases w : s = a
            · rw [w, pk_us, tm, nI_clamp (by omega), nI_clamp (by omega)]; omega
            · rw [pk_un w]; exact Nat.le_refl _
          refine br_f ne ?_
          unfold wX_backspaceInStop_22
          refine sn_xgrp e dd dep hc h16 hed b1 (fun xh' hx => ?_)
          refine br_t s0 ⟨v10, ?_⟩
          refine ⟨v10, fun y ey => ?_⟩
          rw [ca', tm, sn_sb m 1 (by omega) rfl] at ey
          subst ey
          refine sn_xtail P c65 XS (sn_LLU LL (by omega)) bp bl a hbb a1 a9 oc (by have := (MO (m - 1) (by omega) mo).1; omega) ?_
          refine br_f (by decide) (br_t s0 ⟨v10, ?_⟩)
          rw [ca', tn]
          refine br_f ne ?_
          refine sn_ypush e dd dep hc h16 hed TB (Or.inr rfl) b2 (fun yh' hy => ?_)
          refine ⟨v10, v10, fun y ey => ?_⟩
          rw [tn, sn_sb m 1 (by omega) rfl] at ey
          subst ey
          refine fin (m - 1) b_typed (upd b_tLen a (nI (m - 1))) (by omega) (fun s hs => ?_) mo xh' yh' hx hy
          by_cases w : s = a
          · rw [w, pk_us, pk_us]; exact Or.inr ⟨m - 1, by omega, rfl, tt, rfl⟩
          · rw [pk_un w, pk_un w]; exact R2 s hs
    · have mo : ∀ s, s ≤ 9 → (upd a_typedLength a (nI 0) s).toNatClampNeg ≤ (a_typedLength s).toNatClampNeg := by
        intro s hs
        by_cases w : s = a
        · rw [w, pk_us, nI_clamp (by omega)]; exact Nat.zero_le _
        · rw [pk_un w]; exact Nat.le_refl _
      refine br_f s0 ?_
      unfold wX_backspaceInStop_22
      refine sn_xgrp e dd dep hc h16 hed b1 (fun xh' hx => ?_)
      refine br_f s0 ?_
      refine ⟨v10, fun y ey => ?_⟩
      rw [ca'] at ey
      have ey' : y = upd a_typedLength a (nI 0) := ey
      subst ey'
      refine sn_xtail P c65 XS (sn_LLU LL (by omega)) bp bl a hbb a1 a9 oc (by have := (MO 0 (by omega) mo).1; omega) ?_
      refine br_f (by decide) (br_f s0 ?_)
      refine sn_ypush e dd dep hc h16 hed TB (Or.inr rfl) b2 (fun yh' hy => ?_)
      refine ⟨v10, fun y ey => ⟨v10, fun z ez => ?_⟩⟩
      rw [ca', sn_nar1] at ey
      rw [ca'] at ez
      subst ey ez
      exact fin 0 (upd b_typed a 1) (upd b_tLen a 0) (by omega) (sn_TLU R2 (by omega)) mo xh' yh' hx hy
end SOM
