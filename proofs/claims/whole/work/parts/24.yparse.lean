section SNV
/-! Y: the parse -/
def sn_YD (g : sn_G) (ni fi : Int32) (ki va so pr pm sk oc : Nat → Int32) : Prop :=
  sn_YS g.2.1 g.2.2.2.2.1 g.2.2.2.2.2.1 g.2.2.2.2.2.2.1 g.2.2.2.2.2.2.2.1 g.2.2.2.2.2.2.2.2.2.1 g.2.2.2.2.2.2.2.2.2.2.2 ni fi ki va so pr pm ∧
  (∀ k, k < g.2.2.1 → sk k = nI (g.2.2.2.2.2.2.2.2.2.1 (g.2.2.2.2.2.2.2.1 (g.2.2.2.1 k)))) ∧ (∀ s, s ≤ 9 → oc s = if g.2.2.2.2.2.2.2.1 s = 1000 then 0 else 1)
variable {i c d : Nat} {st K : Nat → Nat} {V : Nat → Int32} {S oa ca sg dp pa : Nat → Nat} {ni fi : Int32} {ki va so pr pm sk oc : Nat → Int32} {n : Nat}
theorem sn_ytp (P : sn_PI c d st K V S oa ca sg dp pa) : sn_top d st = 0 ∨ (oa (sn_top d st) < c ∧ 1 ≤ sn_top d st) := by
  unfold sn_top
  by_cases z : d = 0
  · rw [if_pos z]; exact Or.inl rfl
  · have q := P.2.2.2.2.2.1.1 (d - 1) (by omega)
    rw [if_neg z]; exact Or.inr ⟨q.2.2.1, q.1⟩
theorem sn_ysk (P : sn_PI c d st K V S oa ca sg dp pa) (hk : ∀ k, k < d → sk k = nI (sg (oa (st k)))) (z : 0 < d) : sk (d - 1) = sn_yp sg oa (sn_top d st) := by
  have q := P.2.2.2.2.2.1.1 (d - 1) (by omega)
  unfold sn_top sn_yp
  rw [if_neg (show ¬ d = 0 by omega), if_neg (show ¬ st (d - 1) = 0 by omega)]
  exact hk (d - 1) (by omega)
theorem sn_ytp0 (z : d = 0) : sn_yp sg oa (sn_top d st) = -1 := by
  unfold sn_top sn_yp; rw [if_pos z, if_pos rfl]
theorem sn_YDA {k s w : Nat} {v kk vv : Int32} (P : sn_PI c d st K V S oa ca sg dp pa) (D : sn_YD (i, c, d, st, K, V, S, oa, ca, sg, dp, pa) ni fi ki va so pr pm sk oc) (hyk : sn_yk k v kk vv) :
    sn_YD (sn_gA k v s w (i, c, d, st, K, V, S, oa, ca, sg, dp, pa)) (nI (sg c + 1)) fi (upd ki (sg c) kk) (upd va (sg c) vv) (upd so (sg c) (nI s)) (upd pr (sg c) (sn_yp sg oa (sn_top d st))) pm sk oc := by
  refine ⟨sn_yA P D.1 hyk ((sn_ytp P).imp id (fun z => z.1)) rfl, fun k hk => ?_, D.2.2⟩
  have q := P.2.2.2.2.2.1.1 k hk
  have e := D.2.1 k hk
  show sk k = nI (sn_u sg (c + 1) (sg c + 1) (oa (st k)))
  rw [sn_un (by omega)]; exact e
theorem sn_YDF {w : Nat} {kk vv : Int32} (P : sn_PI c d st K V S oa ca sg dp pa) (D : sn_YD (i, c, d, st, K, V, S, oa, ca, sg, dp, pa) ni fi ki va so pr pm sk oc) (hkk : kk = 4) :
    sn_YD (sn_gF w (i, c, d, st, K, V, S, oa, ca, sg, dp, pa)) (nI (sg c + 1)) (nI (sg c)) (upd ki (sg c) kk) (upd va (sg c) vv) (upd so (sg c) (nI 0)) (upd pr (sg c) (sn_yp sg oa (sn_top d st))) pm sk (upd oc 0 1) := by
  have h0 := P.1
  have a := sn_yF (y := c) (sn_yA (k := 3) (s := 0) (v := 0) (kk := kk) (vv := vv) P D.1 ⟨fun z => by omega, fun z => by omega, fun _ => hkk, fun z => by omega⟩ ((sn_ytp P).imp id (fun z => z.1)) rfl) (by omega)
  rw [sn_un (show c ≠ c + 1 by omega)] at a
  refine ⟨a, fun k hk => ?_, fun s hs => ?_⟩
  · have q := P.2.2.2.2.2.1.1 k hk
    have e := D.2.1 k hk
    show sk k = nI (sn_u sg (c + 1) (sg c + 1) (sn_u oa 0 c (st k)))
    rw [sn_un (show st k ≠ 0 by omega), sn_un (by omega)]; exact e
  · show upd oc 0 1 s = if sn_u oa 0 c s = 1000 then 0 else 1
    by_cases e : s = 0
    · rw [e, pk_us, sn_us, if_neg (by omega)]
    · rw [pk_un e, sn_un e]; exact D.2.2 s hs
theorem sn_yOp {s w : Nat} {kk vv : Int32} (P : sn_PI c d st K V S oa ca sg dp pa) (D : sn_YS c K V S oa sg pa ni fi ki va so pr pm) (hs1 : 1 ≤ s) (hs : oa s = 1000) (hkk : kk = 1 ∨ kk = 2) :
    sn_YS (c + 1) (sn_u K c 1) (upd V c (nI s)) (sn_u S c s) (sn_u oa s c) (sn_u sg (c + 1) (sg c + 1)) (sn_u pa c (sn_top d st)) (nI (sg c + 1)) fi (upd ki (sg c) kk) (upd va (sg c) vv) (upd so (sg c) (nI s)) (upd pr (sg c) (sn_yp sg oa (sn_top d st))) (upd pm s (nI (sg c))) := by
  have h0 := P.1
  have a := sn_yO (s := s) (y := c) (sn_yA (k := 1) (s := s) (v := nI s) (kk := kk) (vv := vv) P D ⟨fun z => by omega, fun _ => hkk, fun z => by omega, fun z => by omega⟩ ((sn_ytp P).imp id (fun z => z.1)) rfl) hs1 (by omega) hs (fun x hx hk => ?_)
  · rw [sn_un (show c ≠ c + 1 by omega)] at a
    exact a
  · by_cases e : x = c
    · rw [e, sn_us]
      exact (sn_ytp P).imp id (fun z => by omega)
    · rw [sn_un e] at hk
      rw [sn_un e]
      exact (sn_pa0 P (by omega) hk).imp id (fun z => by omega)
theorem sn_ySt {s : Nat} (P : sn_PI c d st K V S oa ca sg dp pa) (hs : oa s = 1000) (hk : ∀ k, k < d → sk k = nI (sg (oa (st k)))) {sg' : Nat → Nat} (hsg : ∀ x, x < c → sg' x = sg x) : ∀ k, k < d → sk k = nI (sg' (sn_u oa s c (st k))) := by
  intro k z
  have q := P.2.2.2.2.2.1.1 k z
  have h0 := P.1
  rw [sn_un (fun e => by rw [e] at q; omega), hsg _ q.2.2.1]; exact hk k z
theorem sn_yOc {s : Nat} (hc : c ≠ 1000) (h : ∀ t, t ≤ 9 → oc t = if oa t = 1000 then 0 else 1) : ∀ t, t ≤ 9 → upd oc s 1 t = if sn_u oa s c t = 1000 then 0 else 1 := by
  intro t ht
  by_cases e : t = s
  · rw [e, pk_us, sn_us, if_neg hc]
  · rw [pk_un e, sn_un e]; exact h t ht
theorem sn_YDO {s w : Nat} {kk vv : Int32} (P : sn_PI c d st K V S oa ca sg dp pa) (D : sn_YD (i, c, d, st, K, V, S, oa, ca, sg, dp, pa) ni fi ki va so pr pm sk oc) (hs1 : 1 ≤ s) (hs : oa s = 1000) (hkk : kk = 1 ∨ kk = 2) :
    sn_YD (sn_gO s w (i, c, d, st, K, V, S, oa, ca, sg, dp, pa)) (nI (sg c + 1)) fi (upd ki (sg c) kk) (upd va (sg c) vv) (upd so (sg c) (nI s)) (upd pr (sg c) (sn_yp sg oa (sn_top d st))) (upd pm s (nI (sg c))) (upd sk d (nI (sg c))) (upd oc s 1) := by
  have h0 := P.1
  refine ⟨sn_yOp (w := w) P D.1 hs1 hs hkk, fun k hk => ?_, sn_yOc (by omega) D.2.2⟩
  have hk' : k < d + 1 := hk
  show upd sk d (nI (sg c)) k = nI (sn_u sg (c + 1) (sg c + 1) (sn_u oa s c (sn_u st d s k)))
  by_cases e : k = d
  · rw [e, pk_us, sn_us, sn_us, sn_un (by omega)]
  · rw [pk_un e, sn_un e]
    exact sn_ySt P hs D.2.1 (fun x hx => sn_un (by omega)) k (by omega)
theorem sn_YDR {s w : Nat} {kk vv : Int32} (P : sn_PI c d st K V S oa ca sg dp pa) (hc9 : c < 900) (hd4 : d ≤ 4) (hs9 : s ≤ 9) (D : sn_YD (i, c, d, st, K, V, S, oa, ca, sg, dp, pa) ni fi ki va so pr pm sk oc) (hs1 : 1 ≤ s) (hs : oa s = 1000) (hkk : kk = 1 ∨ kk = 2) :
    sn_YD (sn_gC 0 (sn_gO s w (i, c, d, st, K, V, S, oa, ca, sg, dp, pa))) (nI (sg c + 1)) fi (upd ki (sg c) kk) (upd va (sg c) vv) (upd so (sg c) (nI s)) (upd pr (sg c) (sn_yp sg oa (sn_top d st))) (upd pm s (nI (sg c))) sk (upd oc s 1) := by
  have h0 := P.1
  have Q := sn_Po P hc9 hd4 hs1 hs9 hs
  refine ⟨sn_yC Q (sn_yOp (w := w) P D.1 hs1 hs hkk), fun k hk => ?_, sn_yOc (by omega) D.2.2⟩
  have hk' : k < d + 1 - 1 := hk
  show sk k = nI (sn_u (sn_u sg (c + 1) (sg c + 1)) (c + 1 + 1) _ (sn_u oa s c (sn_u st d s k)))
  rw [sn_un (show k ≠ d by omega)]
  exact sn_ySt P hs D.2.1 (fun x hx => by rw [sn_un (by omega), sn_un (by omega)]) k (by omega)
theorem sn_YDC {w : Nat} (P : sn_PI c d st K V S oa ca sg dp pa) (z : 0 < d) (D : sn_YD (i, c, d, st, K, V, S, oa, ca, sg, dp, pa) ni fi ki va so pr pm sk oc) : sn_YD (sn_gC w (i, c, d, st, K, V, S, oa, ca, sg, dp, pa)) ni fi ki va so pr pm sk oc := by
  refine ⟨sn_yC P D.1, fun k hk => ?_, D.2.2⟩
  have hk' : k < d - 1 := hk
  have q := P.2.2.2.2.2.1.1 k (by omega)
  have e := D.2.1 k (show k < d by omega)
  show sk k = nI (sn_u sg (c + 1) (sg c + 0) (oa (st k)))
  rw [sn_un (by omega)]; exact e
def sn_YK (post : Int32 → SY → Prop) (f_cap f_hcap f_len f_caret f_sel f_bodyLen f_sBodyLen f_merge f_session f_selected f_active f_fromStruct f_baseLen f_baseP f_rlen f_tlen f_clearAll f_svF f_svL f_hCount : Int32) (a_buf a_body a_sBody a_typed a_tLen a_tText a_ipos a_base a_rbuf a_tbuf a_svT a_hist : Nat → Int32) (r : Option sn_G) : Prop :=
  (r = none → ∀ (ni fi : Int32) (ki va so pr pm sk oc : Nat → Int32), post 0 (f_cap, f_hcap, f_len, f_caret, f_sel, f_bodyLen, f_sBodyLen, f_merge, f_session, f_selected, f_active, ni, fi, f_fromStruct, f_baseLen, f_baseP, f_rlen, f_tlen, f_clearAll, f_svF, f_svL, f_hCount, a_buf, a_body, a_sBody, a_typed, a_tLen, a_tText, ki, va, so, pr, a_ipos, pm, sk, oc, a_base, a_rbuf, a_tbuf, a_svT, a_hist)) ∧
  (∀ g : sn_G, r = some g → ∀ (ni fi : Int32) (ki va so pr pm sk oc : Nat → Int32), sn_YD g ni fi ki va so pr pm sk oc → post 1 (f_cap, f_hcap, f_len, f_caret, f_sel, f_bodyLen, f_sBodyLen, f_merge, f_session, f_selected, f_active, ni, fi, f_fromStruct, f_baseLen, f_baseP, f_rlen, f_tlen, f_clearAll, f_svF, f_svL, f_hCount, a_buf, a_body, a_sBody, a_typed, a_tLen, a_tText, ki, va, so, pr, a_ipos, pm, sk, oc, a_base, a_rbuf, a_tbuf, a_svT, a_hist))
def sn_YJ (post : Int32 → SY → Prop) (n m : Nat) (x4 : Int32) (f_cap f_hcap f_len f_caret f_sel f_bodyLen f_sBodyLen f_merge f_session f_selected f_active f_fromStruct f_baseLen f_baseP f_rlen f_tlen f_clearAll f_svF f_svL f_hCount : Int32) (a_buf a_body a_sBody a_typed a_tLen a_tText a_ipos a_base a_rbuf a_tbuf a_svT a_hist : Nat → Int32) (r : Option sn_G) : Prop :=
  (r = none → ∀ (ni fi : Int32) (ki va so pr pm sk oc : Nat → Int32), post 0 (f_cap, f_hcap, f_len, f_caret, f_sel, f_bodyLen, f_sBodyLen, f_merge, f_session, f_selected, f_active, ni, fi, f_fromStruct, f_baseLen, f_baseP, f_rlen, f_tlen, f_clearAll, f_svF, f_svL, f_hCount, a_buf, a_body, a_sBody, a_typed, a_tLen, a_tText, ki, va, so, pr, a_ipos, pm, sk, oc, a_base, a_rbuf, a_tbuf, a_svT, a_hist)) ∧
  (∀ g : sn_G, r = some g → ∀ (ni fi : Int32) (ki va so pr pm sk oc : Nat → Int32), sn_YD g ni fi ki va so pr pm sk oc → ∀ y : Int32, y = x4 + 1 → wY_parse_64 post (nI n) m (nI g.2.2.1) (nI g.1) y f_cap f_hcap f_len f_caret f_sel f_bodyLen f_sBodyLen f_merge f_session f_selected f_active ni fi f_fromStruct f_baseLen f_baseP f_rlen f_tlen f_clearAll f_svF f_svL f_hCount a_buf a_body a_sBody a_typed a_tLen a_tText ki va so pr a_ipos pm sk oc a_base a_rbuf a_tbuf a_svT a_hist)
variable {f_cap f_hcap f_len f_caret f_sel f_bodyLen f_sBodyLen f_merge f_session f_selected f_active f_nItems f_finalIdx f_fromStruct f_baseLen f_baseP f_rlen f_tlen f_clearAll f_svF f_svL f_hCount : Int32} {a_buf a_body a_sBody a_typed a_tLen a_tText a_kind a_val a_stopOf a_par a_ipos a_prim a_stack a_occ a_base a_rbuf a_tbuf a_svT a_hist : Nat → Int32}
variable {g : sn_G}
theorem sn_yadd {post : SY → Prop} {x0 x1 x2 x3 p : Int32} (N d : Nat) (hN : N < 72) (e3 : x3 = nI d) (hd : d ≤ 4) (hp : d = 0 → p = -1) (hp' : 0 < d → a_stack (d - 1) = p)
    (h : post (f_cap, f_hcap, f_len, f_caret, f_sel, f_bodyLen, f_sBodyLen, f_merge, f_session, f_selected, f_active, nI (N + 1), f_finalIdx, f_fromStruct, f_baseLen, f_baseP, f_rlen, f_tlen, f_clearAll, f_svF, f_svL, f_hCount, a_buf, a_body, a_sBody, a_typed, a_tLen, a_tText, upd a_kind N x0, upd a_val N x1, upd a_stopOf N x2, upd a_par N p, a_ipos, a_prim, a_stack, a_occ, a_base, a_rbuf, a_tbuf, a_svT, a_hist)) : wpY_add post (f_cap, f_hcap, f_len, f_caret, f_sel, f_bodyLen, f_sBodyLen, f_merge, f_session, f_selected, f_active, nI N, f_finalIdx, f_fromStruct, f_baseLen, f_baseP, f_rlen, f_tlen, f_clearAll, f_svF, f_svL, f_hCount, a_buf, a_body, a_sBody, a_typed, a_tLen, a_tText, a_kind, a_val, a_stopOf, a_par, a_ipos, a_prim, a_stack, a_occ, a_base, a_rbuf, a_tbuf, a_svT, a_hist) x0 x1 x2 x3 := by
  subst e3
  have v72 : vp_in (nI N) 72 := vp_in_nI (by omega) (by omega)
  have cN : (nI N).toNatClampNeg = N := nI_clamp (by omega)
  refine br_t (nI_lt (a := N) (b := 72) hN (by omega)) ⟨v72, fun y ey => ⟨v72, fun z ez => ⟨v72, fun w ew => ?_⟩⟩⟩
  rw [cN] at ey ez ew
  subst ey ez ew
  have J : ∀ q : Int32, q = p → wY_add_66 post q (nI N) f_cap f_hcap f_len f_caret f_sel f_bodyLen f_sBodyLen f_merge f_session f_selected f_active (nI N) f_finalIdx f_fromStruct f_baseLen f_baseP f_rlen f_tlen f_clearAll f_svF f_svL f_hCount a_buf a_body a_sBody a_typed a_tLen a_tText (upd a_kind N x0) (upd a_val N x1) (upd a_stopOf N x2) a_par a_ipos a_prim a_stack a_occ a_base a_rbuf a_tbuf a_svT a_hist := by
    intro q eq
    refine ⟨v72, fun y ey z ez => ?_⟩
    rw [cN, eq] at ey
    rw [ez, nI_1, ey]; exact h
  by_cases z : d = 0
  · exact br_t (by rw [z]; decide) (J _ (hp z).symm)
  · have ix : nI d - 1 = nI (d - 1) := sn_sb d 1 (by omega) rfl
    refine br_f (nI_nle (by omega) (by omega)) ?_
    rw [ix]
    refine ⟨vp_in_nI (by omega) (by omega), ?_⟩
    rw [nI_clamp (show d - 1 < 2 ^ 31 by omega)]
    exact J _ (hp' (by omega))
theorem sn_gsB (GI : sn_GI n g) : g.2.2.2.2.2.2.2.2.2.1 g.2.1 ≤ g.2.1 ∧ g.2.1 ≤ 64 := by
  have a := sn_sgx (x := g.2.1) GI.1.2.1 (Nat.le_refl _)
  have b := GI.2.1
  have c := GI.2.2.1
  have d := GI.2.2.2.1
  exact ⟨a, by omega⟩
theorem sn_yRef {post : Int32 → SY → Prop} {x0 x1 : Int32} (s w : Nat) (e0 : x0 = nI s) (e1 : x1 = nI g.2.2.1) (hs : s ≤ 9) (GI : sn_GI n g) (D : sn_YD g f_nItems f_finalIdx a_kind a_val a_stopOf a_par a_prim a_stack a_occ) (h : sn_YK post f_cap f_hcap f_len f_caret f_sel f_bodyLen f_sBodyLen f_merge f_session f_selected f_active f_fromStruct f_baseLen f_baseP f_rlen f_tlen f_clearAll f_svF f_svL f_hCount a_buf a_body a_sBody a_typed a_tLen a_tText a_ipos a_base a_rbuf a_tbuf a_svT a_hist (sn_gRef s w g)) : wpY_ref post (f_cap, f_hcap, f_len, f_caret, f_sel, f_bodyLen, f_sBodyLen, f_merge, f_session, f_selected, f_active, f_nItems, f_finalIdx, f_fromStruct, f_baseLen, f_baseP, f_rlen, f_tlen, f_clearAll, f_svF, f_svL, f_hCount, a_buf, a_body, a_sBody, a_typed, a_tLen, a_tText, a_kind, a_val, a_stopOf, a_par, a_ipos, a_prim, a_stack, a_occ, a_base, a_rbuf, a_tbuf, a_svT, a_hist) x0 x1 := by
  subst e0
  have B := sn_gsB GI
  unfold sn_gRef at h
  obtain ⟨i, c, d, st, K, V, S, oa, ca, sg, dp, pa⟩ := g
  obtain ⟨P, g1, g2, g3, g4⟩ := GI
  dsimp only at P g1 g2 g4 B e1
  have h0 := P.1
  have o0 := D.2.2 0 (by omega)
  have os := D.2.2 s hs
  have en : f_nItems = nI (sg c) := D.1.1
  subst en e1
  by_cases s0 : s = 0
  · subst s0
    rw [if_pos rfl] at h
    unfold sn_gFin at h
    refine br_t rfl ?_
    by_cases z : 0 < d
    · exact br_t (nI_lt (a := 0) (b := d) z (by omega)) (h.1 (if_pos (Or.inl z)) _ _ _ _ _ _ _ _ _)
    · refine br_f (fun y => z ((nI_ltI (a := 0) (b := d) (by omega) (by omega)).mp y)) ?_
      have d0 : d = 0 := by omega
      subst d0
      by_cases oz : oa 0 = 1000
      · have o0' : a_occ 0 = 0 := by rw [o0]; exact if_pos oz
        refine br_t o0' ?_
        intro y ey
        rw [sn_nar1] at ey
        subst ey
        refine sn_yadd (p := sn_yp sg oa (sn_top 0 st)) (sg c) 0 (by omega) rfl (by omega) (fun _ => sn_ytp0 rfl) (fun z => absurd z (by omega)) ?_
        refine h.2 _ (if_neg (fun y => ?_)) _ _ _ _ _ _ _ _ _ (sn_YDF P D rfl)
        rcases y with y | y
        · exact z y
        · exact y oz
      · have o0' : ¬ a_occ 0 = 0 := by
          rw [o0]
          show ¬ (if oa 0 = 1000 then (0 : Int32) else 1) = 0
          rw [if_neg oz]; decide
        exact br_f o0' (h.1 (if_pos (Or.inr oz)) _ _ _ _ _ _ _ _ _)
  · rw [if_neg s0] at h
    refine br_f (sn_ne s0 (by omega) (by omega)) ⟨vp_in_nI (by omega) (by omega), ?_⟩
    rw [nI_clamp (show s < 2 ^ 31 by omega)]
    by_cases oz : oa s = 1000
    · have os' : a_occ s = 0 := by rw [os]; exact if_pos oz
      rw [if_pos (show sn_go (i, c, d, st, K, V, S, oa, ca, sg, dp, pa) s = 1000 from oz)] at h
      refine br_t os' ⟨vp_in_nI (by omega) (by omega), fun y ey => ⟨vp_in_nI (by omega) (by omega), fun z ez => ?_⟩⟩
      rw [sn_nar1] at ey
      subst ey ez
      refine sn_yadd (p := sn_yp sg oa (sn_top d st)) (sg c) d (by omega) rfl g4 (fun z => sn_ytp0 z) (fun z => sn_ysk P D.2.1 z) ?_
      exact h.2 _ rfl _ _ _ _ _ _ _ _ _ (sn_YDR P (by omega) g4 hs D (by omega) oz (Or.inl rfl))
    · have os' : ¬ a_occ s = 0 := by
        rw [os]
        show ¬ (if oa s = 1000 then (0 : Int32) else 1) = 0
        rw [if_neg oz]; decide
      rw [if_neg (show ¬ sn_go (i, c, d, st, K, V, S, oa, ca, sg, dp, pa) s = 1000 from oz)] at h
      unfold sn_gMir at h
      refine br_f os' ?_
      by_cases z : 0 < d
      · exact br_f (nI_nle z (by omega)) (h.1 (if_pos (Or.inl z)) _ _ _ _ _ _ _ _ _)
      · have d0 : d = 0 := by omega
        subst d0
        refine br_t (by decide) ?_
        refine sn_yadd (p := sn_yp sg oa (sn_top 0 st)) (sg c) 0 (by omega) rfl (by omega) (fun _ => sn_ytp0 rfl) (fun z => absurd z (by omega)) ?_
        refine h.2 _ (if_neg (fun y => ?_)) _ _ _ _ _ _ _ _ _ (sn_YDA P D ⟨fun z => by omega, fun z => by omega, fun z => by omega, fun _ => ⟨rfl, rfl⟩⟩)
        rcases y with y | y | y
        · exact z y
        · exact s0 y
        · exact oz y
end SNV
