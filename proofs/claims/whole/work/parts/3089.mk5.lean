-- a module becomes an instance: its own table
theorem ol_none {d : mD} {k κ : Nat} (h : dn d k / 3 ≤ ni d κ) : ol d k κ = 0 := by
  unfold ol
  rw [if_neg (by omega)]
section MK5
variable {own own' ad ad' : Nat → Nat} {h h' : xb_H} {W : wD} {σ : Nat}
theorem bg.le {rc rs rc' rs' bc bs : Nat} (hg : bg ad h rc rs bc bs) (h1 : rc' ≤ rc) (h2 : rs' ≤ rs) : bg ad h rc' rs' bc bs := by
  obtain ⟨g1, g2⟩ := hg
  exact ⟨by omega, by omega⟩
theorem rP_cg (e : ∀ k, k < 41 → ad' k = ad k ∧ xb_n h' (ad k) = xb_n h (ad k)) {r : Nat} (hr : r ∈ rwl) : rP h' ad' r = rP h ad r := by
  obtain ⟨h1, -⟩ := rwl_k r hr
  unfold rP
  rw [(e _ h1).1, (e _ h1).2]
/-- room is spent on something else -/
theorem bg.sp {rc rs bc bs c s : Nat} (hg : bg ad h (rc + c) (rs + s) bc bs) (e : ∀ k, k < 41 → ad' k = ad k ∧ xb_n h' (ad k) = xb_n h (ad k)) : c ≤ bc ∧ s ≤ bs ∧ bg ad' h' rc rs (bc - c) (bs - s) := by
  obtain ⟨g1, g2⟩ := hg
  have e1 : s9 (rP h' ad') = s9 (rP h ad) := by
    unfold s9
    rw [rP_cg e (by decide), rP_cg e (by decide), rP_cg e (by decide), rP_cg e (by decide), rP_cg e (by decide), rP_cg e (by decide), rP_cg e (by decide), rP_cg e (by decide), rP_cg e (by decide)]
  have e2 : s9 (fun r => rP h' ad' r / 8) = s9 (fun r => rP h ad r / 8) := by
    unfold s9
    dsimp only
    rw [rP_cg e (by decide), rP_cg e (by decide), rP_cg e (by decide), rP_cg e (by decide), rP_cg e (by decide), rP_cg e (by decide), rP_cg e (by decide), rP_cg e (by decide), rP_cg e (by decide)]
  unfold bg
  rw [e1, e2]
  omega
theorem stp.bud {rc rs bc bs c s : Nat} {X : List Nat} (hs : stp [] X own ad own' ad' h h') (hB : cB own ad h) (hg : bg ad h (rc + c) (rs + s) bc bs) : c ≤ bc ∧ s ≤ bs ∧ bg ad' h' rc rs (bc - c) (bs - s) := hg.sp (fun k hk => ⟨hs.2.1 k (by simp), (hs.2.2.2.1 _ (hB.z k hk)).2⟩)
theorem mk_tab {md q ne rc rs bc bs : Nat} {d : mD} {Qr : Int32 → xb_H → Nat → Nat → Prop} (hB : cB own ad h) (hm : mo own h md d) (kq : xb_k h q = 11) (oq : own q = 1) (hE : xr_row h (ad 23) 1 ne (ad 24)) (hl : (ne : Int) + ol d 3 1 ≤ 16384) (hg : bg ad h (rc + 1) (rs + 3) bc bs)
    (hK : ∀ (h1 : xb_H) (own1 ad1 : Nat → Nat) (bc1 bs1 : Nat), stp [23, 24] [q] own ad own1 ad1 h h1 → xr_row h1 (ad1 23) 1 (ne + (ol d 3 1).toNat) (ad1 24) → (∀ e, e < ne → xb_l h1 (ad1 24) e = xb_l h (ad 24) e) → (∀ e, ne ≤ e → e < ne + (ol d 3 1).toNat → (xb_l h1 (ad1 24) e).toInt = -1) → xb_i h1 q = xb_i h q → (∀ j, j ≠ 6 → xb_r h1 q j = xb_r h q j) → ((dn d 3 / 3 ≤ ni d 1 ∧ xb_r h1 q 6 = xb_r h q 6) ∨ ni d 1 < dn d 3 / 3 ∧ ∃ ta, xb_r h1 q 6 = some ta ∧ xb_k h ta = 0 ∧ xb_k h1 ta = 12 ∧ own1 ta = 1 ∧ (xb_i h1 ta 0).toInt = ne ∧ (xb_i h1 ta 1).toInt = (ol d 3 1).toNat ∧ xb_l h1 ta 2 = dvs d 3 2) → bg ad1 h1 rc rs bc1 bs1 → w_World_make_L171 Qr (ad 14) md q h1 bc1 bs1) : w_mk_T Qr (ad 14) md q h bc bs := by
  obtain ⟨n1, n2, n3, n4, n5, n6, n7, -⟩ := hm.nn
  obtain ⟨a1, a2, a3, ⟨i1, i2, i3, i4⟩, a5⟩ := hm.1
  have nq : ∀ k, k < 41 → q ≠ ad k := fun k hk => hB.n1 hk oq
  have p3 := (ol_rg hm (.inl ⟨rfl, rfl⟩)).1
  have p3b := hm.2.1
  unfold w_mk_T
  refine ⟨_, hm.1.row (k := 3) (by omega), hm.1.krow (by omega), md_lines hm.1 (k := 3) (c := 3) (by omega) rfl (by omega) (fun r10 e10 _ => ⟨_, i1, i2, by rw [z_in, i3]; decide, fun c1 => ?_, fun c1 => ?_⟩)⟩
  · rw [z_le, e10, i4, n5 1 (by omega)] at c1
    have c2 : dn d 3 / 3 ≤ ni d 1 := by omega
    have e0 := ol_none c2
    refine hK h own ad bc bs ((stp.rf hB).mono (fun j hj => by cases hj) (fun j hj => by cases hj)) (by rw [e0]; exact hE) (fun e _ => rfl) (fun e h1 h2 => ?_) rfl (fun j _ => rfl) (.inl ⟨c2, rfl⟩) (hg.le (by omega) (by omega))
    rw [e0] at h2
    simp at h2
    omega
  · rw [z_le, e10, i4, n5 1 (by omega)] at c1
    have c2 : ni d 1 < dn d 3 / 3 := by omega
    refine ⟨_, hm.1.row (k := 3) (by omega), mo_ownLeast hm (.inl ⟨rfl, rfl⟩) rfl (fun r17 e17 e17a e17b _ v18 e18 => ?_)⟩
    obtain ⟨m, hm9⟩ : ∃ m : Nat, ol d 3 1 = m := ⟨(ol d 3 1).toNat, by omega⟩
    rw [hm9] at e17 hl
    have t3 : (ol d 3 1).toNat = m := by rw [hm9, Int.toNat_natCast]
    rw [t3] at hK
    have e18i : v18.toInt = m := by rw [e18]; exact z_l2i e17 (by omega)
    refine ⟨?_, ?_, fun q19 z19 h20 e20 => ?_⟩
    · have := hg.1; omega
    · have := hg.2; omega
    have s20 : stp [] [] own ad (nown own q19 1) ad h h20 := by rw [e20]; exact stp.new hB z19
    obtain ⟨-, -, g20⟩ := s20.bud hB hg
    have hB20 := s20.1
    have hm20 := hm.st hB s20 (fun k hk => by cases hk) (fun k hk => by cases hk)
    have k20 : xb_k h20 q19 = 12 := by rw [e20, xh_kN, if_pos rfl]
    have qn : q ≠ q19 := fun e => by rw [← e, kq] at z19; cases z19
    have n19 : ∀ k, k < 41 → q19 ≠ ad k := fun k hk e => hB.z k hk (e ▸ z19)
    have o19 : nown own q19 1 q19 = 1 := nown_eq
    have i20 : xb_i h20 (ad 23) 1 = xb_i h (ad 23) 1 := by rw [e20, xh_iN, if_neg (n19 23 (by omega)).symm]
    have l3 : 3 * 0 + 3 ≤ dn d 3 := by omega
    refine ⟨hB20.k 14 (by omega), ad 23, hB20.r (14, 4, 23) (by decide), hB20.k 23 (by omega), _, hm20.1.row (k := 3) (by omega), hm20.1.krow (by omega), md_longAt (c := 3) hm20.1 (i := 0) (j := 2) (by omega) rfl rfl rfl (by omega) l3 (fun _ => ?_)⟩
    unfold w_Table_init
    refine ⟨k20, fun h2 e2 h3 e3 h4 e4 _ => ?_⟩
    have s4 : stp [] [q19] (nown own q19 1) ad (nown own q19 1) ad h20 h4 := by
      rw [e4, e3, e2]
      have t1 := stp.I (a := q19) (k := 0) (x := xb_i h20 (ad 23) 1) hB20
      have t2 := stp.I (a := q19) (k := 1) (x := v18) t1.1
      have t3 := stp.L (a := q19) (k := 2) (x := dvs d 3 (3 * 0 + 2)) t2.1
      exact ((t1.tr t2).tr t3).mono (fun k hk => by simp at hk) (fun k hk => by simpa using hk)
    have i4' : ∀ a, a ≠ q19 → xb_i h4 a = xb_i h a := fun a ha => by rw [e4, xh_iL, e3, xh_iI, if_neg ha, e2, xh_iI, if_neg ha, e20, xh_iN, if_neg ha]
    have i4q : xb_i h4 q19 = va_up (va_up (xb_i h20 q19) 0 (xb_i h20 (ad 23) 1)) 1 v18 := by rw [e4, xh_iL, e3, xh_iI, if_pos rfl, e2, xh_iI, if_pos rfl]
    have l4' : ∀ a, a ≠ q19 → xb_l h4 a = xb_l h a := fun a ha => by rw [e4, xh_lL, if_neg ha, e3, xh_lI, e2, xh_lI, e20, xh_lN, if_neg ha]
    have r4' : ∀ a, a ≠ q19 → xb_r h4 a = xb_r h a := fun a ha => by rw [e4, xh_rL, e3, xh_rI, e2, xh_rI, e20, xh_rN, if_neg ha]
    have l4q : xb_l h4 q19 2 = dvs d 3 2 := by rw [e4, xh_lL, if_pos rfl, xh_up, if_pos rfl]
    have k4 : xb_k h4 = xb_k h20 := by rw [e4, e3, e2]; rfl
    have n4' : xb_n h4 = xb_n h20 := by rw [e4, e3, e2]; rfl
    clear e4 e3 e2
    have g4 : bg ad h4 rc rs (bc - 1) (bs - 3) := by
      have := (s4.bud (c := 0) (s := 0) hB20 g20).2.2
      exact this
    refine ⟨by rw [k4, e20, xh_kN, if_neg qn]; exact kq, fun h32 e32 => ?_⟩
    have s32 : stp [] [q] (nown own q19 1) ad (nown own q19 1) ad h4 h32 := by
      rw [e32]
      exact stp.P s4.1 nq
    have g32 : bg ad h32 rc rs (bc - 1) (bs - 3) := (s32.bud (c := 0) (s := 0) s4.1 g4).2.2
    have s0 : stp [] [q] own ad (nown own q19 1) ad h h32 := by
      have t := (s20.tr s4).tr s32
      obtain ⟨x1, x2, x3, x4, x5, x6⟩ := t
      refine ⟨x1, fun k _ => x2 k (by simp), x3, x4, fun a ha hx hc => x5 a ha (fun h9 => ?_) (fun k hk => by simp at hk), x6⟩
      simp only [List.nil_append, List.append_nil, List.cons_append, List.mem_cons, List.not_mem_nil, or_false] at h9 hx
      rcases h9 with h9 | h9
      · exact ha (h9 ▸ z19)
      · exact hx h9
    have hE32 : xr_row h32 (ad 23) 1 ne (ad 24) := hE.fr (s0.2.2.2.2.1 _ (hB.z 23 (by omega)) (fun h9 => nq 23 (by omega) (List.mem_singleton.mp h9).symm) (fun k hk => by cases hk)) s0.2.2.2.1
    refine ⟨ad 23, s32.1.r (14, 4, 23) (by decide), s32.1.k 23 (by omega), wr_many (r := 23) (k := m) (by decide) s32.1 hE32 e18i (by show _ ≤ 16384; omega) g32 (fun h35 q2 bc' bs' w1 w2 w3 w4 w5 w6 w7 w8 _ => ?_)⟩
    have st := stp.row (r := 23) (by decide) w1 w5 w6 w7
    have z32 : ∀ a, xb_k h a ≠ 0 → xb_k h32 a ≠ 0 := fun a ha => ext_nz s0.2.2.2.1 ha
    have kq32 : xb_k h32 q ≠ 0 := z32 q (by omega)
    have k19 : xb_k h32 q19 = 12 := by rw [e32, xh_kP, k4]; exact k20
    have sq := w6 q kq32 (nq 23 (by omega)) (nq 24 (by omega))
    have s19 := w6 q19 (by omega) (n19 23 (by omega)) (n19 24 (by omega))
    have iq : xb_i h35 q = xb_i h q := by rw [sq.1, e32, xh_iP, i4' q qn]
    have rq : xb_r h35 q = va_up (xb_r h q) 6 (some q19) := by rw [sq.2.2, e32, xh_rP, if_pos rfl, r4' q qn]
    have i19 : xb_i h35 q19 = xb_i h4 q19 := by rw [s19.1, e32, xh_iP]
    have a24 : ad 24 ≠ q19 := (n19 24 (by omega)).symm
    refine hK h35 _ (va_up ad 24 q2) bc' bs' ((s0.tr st).mono (fun j hj => by simpa using hj) (fun j hj => by simpa using hj)) ?_ (fun e he => ?_) (fun e h1 h2 => ?_) iq (fun j hj => by rw [rq, xh_up, if_neg hj]) (.inr ⟨c2, q19, by rw [rq, xh_up, if_pos rfl], z19, w7.k (c := 11) k19, ?_, ?_, ?_, by rw [s19.2.1, e32, xh_lP]; exact l4q⟩) w8
    · rw [xh_up, if_neg (by omega), xh_up, if_pos rfl]
      exact w2
    · rw [xh_up, if_pos rfl, w3 e he, e32, xh_lP, l4' _ a24]
    · rw [xh_up, if_pos rfl, w4 e h1 h2]
      rfl
    · rw [rown_old (by omega)]
      exact nown_eq
    · rw [i19, i4q, xh_up, if_neg (by omega), xh_up, if_pos rfl, i20]
      exact hE.2.2.1
    · rw [i19, i4q, xh_up, if_pos rfl, e18i]
end MK5
