-- a module becomes an instance: its own memory
section MK6
variable {own own' ad ad' : Nat → Nat} {h h' : xb_H} {W : wD} {σ : Nat}
/-- a module does not see what happens to an instance -/
theorem mo.fr2 {md q : Nat} {d : mD} (hm : mo own h md d) (hs : ∀ a, xb_k h a ≠ 0 → own a = 1 → a ≠ q → xh_sm h h' a) (he : xb_ext h h') (ho : ∀ a, xb_k h a ≠ 0 → own a = 1 → own' a = 1) (kq : xb_k h q = 11) : mo own' h' md d := by
  have h1 : mo (nown own q 99) h md d := by
    obtain ⟨⟨⟨a1, a2, a3, a4, a5⟩, ⟨a6, a7, a8, a9⟩, a10, ⟨a11, a12, a13, a14⟩, a15⟩, m2, o1, o2, o3, o4, o5⟩ := id hm
    have ne : ∀ a c, xb_k h a = c → c ≠ 11 → a ≠ q := fun a c e1 e2 e => e2 (by rw [← e1, e, kq])
    refine ⟨hm.1, m2, by rw [nown_ne (ne _ 3 a1 (by omega))]; exact o1, by rw [nown_ne (ne _ 100 a3 (by omega))]; exact o2, by rw [nown_ne (ne _ 102 a7 (by omega))]; exact o3, by rw [nown_ne (ne _ 102 a12 (by omega))]; exact o4, fun k hk => ?_⟩
    obtain ⟨b1, b2, b3⟩ := a10 k hk
    exact ⟨by rw [nown_ne (ne _ 2 b2.1 (by omega))]; exact (o5 k hk).1, by rw [nown_ne (ne _ 103 b2.2.2.2.2.1 (by omega))]; exact (o5 k hk).2⟩
  refine h1.fr (fun a ha ho9 => ?_) he (fun a ha ho9 => ?_)
  · by_cases e : a = q
    · rw [e, nown_eq] at ho9
      cases ho9
    · rw [nown_ne e] at ho9
      exact hs a ha ho9 e
  · by_cases e : a = q
    · rw [e, nown_eq] at ho9
      cases ho9
    · rw [nown_ne e] at ho9
      exact ho a ha ho9
theorem mk_mem {md q np rc rs bc bs : Nat} {d : mD} {Qr : Int32 → xb_H → Nat → Nat → Prop} (hB : cB own ad h) (hm : mo own h md d) (kq : xb_k h q = 11) (oq : own q = 1) (hR : xr_row h (ad 25) 1 (8192 * np) (ad 26)) (hl : (np : Int) + ol d 4 2 ≤ 16) (hg : bg ad h (rc + 2) (rs + 20) bc bs)
    (hK : ∀ (h1 : xb_H) (own1 ad1 : Nat → Nat) (bc1 bs1 : Nat), stp [25, 26] [q] own ad own1 ad1 h h1 → xr_row h1 (ad1 25) 1 (8192 * (np + (ol d 4 2).toNat)) (ad1 26) → xb_i h1 q = xb_i h q → (∀ j, j ≠ 7 → xb_r h1 q j = xb_r h q j) → ((dn d 4 / 3 ≤ ni d 2 ∧ xb_r h1 q 7 = xb_r h q 7) ∨ ni d 2 < dn d 4 / 3 ∧ ∃ ma sl, xb_r h1 q 7 = some ma ∧ xb_k h ma = 0 ∧ xb_k h sl = 0 ∧ xb_k h1 ma = 13 ∧ own1 ma = 50 ∧ xb_r h1 ma 0 = some (ad 25) ∧ ((xb_l h1 ma 1).toInt = -1 ∨ 0 ≤ (xb_l h1 ma 1).toInt ∧ (xb_l h1 ma 1).toInt ≤ 65536) ∧ xb_r h1 ma 2 = some sl ∧ xb_k h1 sl = 102 ∧ own1 sl = 51 ∧ xb_n h1 sl = 16 ∧ (xb_i h1 ma 3).toInt = (ol d 4 2).toNat ∧ (∀ j, j < (ol d 4 2).toNat → 0 ≤ (xb_i h1 sl j).toInt ∧ (xb_i h1 sl j).toInt < (np + (ol d 4 2).toNat : Nat)) ∧ xb_l h1 ma 1 = dvs d 4 2 ∧ ∀ j, j < (ol d 4 2).toNat → (xb_i h1 sl j).toInt = (np + j : Nat)) → bg ad1 h1 rc rs bc1 bs1 → ((∀ j, j < 8192 * np → xb_l h1 (ad1 26) j = xb_l h (ad 26) j) ∧ ∀ j, 8192 * np ≤ j → j < 8192 * (np + (ol d 4 2).toNat) → xb_l h1 (ad1 26) j = 0) → w_World_make_L229 Qr (ad 14) q h1 bc1 bs1) : w_World_make_L171 Qr (ad 14) md q h bc bs := by
  obtain ⟨n1, n2, n3, n4, n5, n6, n7, -⟩ := hm.nn
  obtain ⟨a1, a2, a3, ⟨i1, i2, i3, i4⟩, a5⟩ := hm.1
  have nq : ∀ k, k < 41 → q ≠ ad k := fun k hk => hB.n1 hk oq
  obtain ⟨p3, p4, p5⟩ := ol_rg hm (.inr ⟨rfl, rfl⟩)
  obtain ⟨l1, l2, l3⟩ := hm.2.1.2.2.2.2.1
  unfold w_World_make_L171
  refine ⟨hm.1.k, _, hm.1.row (k := 4) (by omega), hm.1.krow (by omega), md_lines hm.1 (k := 4) (c := 3) (by omega) rfl (by omega) (fun r5 e5 _ => ⟨_, i1, i2, by rw [z_in, i3]; decide, fun c1 => ?_, fun c1 => ?_⟩)⟩
  · rw [z_le, e5, i4, n5 2 (by omega)] at c1
    have c2 : dn d 4 / 3 ≤ ni d 2 := by omega
    have e0 := ol_none c2
    exact hK h own ad bc bs ((stp.rf hB).mono (fun j hj => by cases hj) (fun j hj => by cases hj)) (by rw [e0]; exact hR) rfl (fun j _ => rfl) (.inl ⟨c2, rfl⟩) (hg.le (by omega) (by omega)) ⟨fun j _ => rfl, fun j h1 h2 => by rw [e0] at h2; simp at h2; omega⟩
  · rw [z_le, e5, i4, n5 2 (by omega)] at c1
    have c2 : ni d 2 < dn d 4 / 3 := by omega
    obtain ⟨⟨-, -, -, -, lmax⟩, -⟩ := l1.at (by omega) (i := 0) (by omega)
    obtain ⟨lm1, lm2, lm3⟩ := l3 (by omega)
    have e0 : ol d 4 2 = (dvs d 4 1).toInt := if_pos c2
    obtain ⟨m, hm9⟩ : ∃ m : Nat, ol d 4 2 = m := ⟨(ol d 4 2).toNat, by omega⟩
    have t3 : (ol d 4 2).toNat = m := by rw [hm9, Int.toNat_natCast]
    rw [t3] at hK
    have l0 : 3 * 0 + 3 ≤ dn d 4 := by omega
    refine ⟨?_, ?_, fun q10 z10 h11 e11 => ?_⟩
    · have := hg.1; omega
    · have := hg.2; omega
    have s11 : stp [] [] own ad (nown own q10 50) ad h h11 := by rw [e11]; exact stp.new hB z10
    obtain ⟨-, -, g11⟩ := s11.bud (rc := rc + 1) (c := 1) (rs := rs + 16) (s := 4) hB hg
    have hB11 := s11.1
    have hm11 := hm.st hB s11 (fun k hk => by cases hk) (fun k hk => by cases hk)
    have k11 : xb_k h11 q10 = 13 := by rw [e11, xh_kN, if_pos rfl]
    have qn : q ≠ q10 := fun e => by rw [← e, kq] at z10; cases z10
    have n10 : ∀ k, k < 41 → q10 ≠ ad k := fun k hk e => hB.z k hk (e ▸ z10)
    refine ⟨hB11.k 14 (by omega), ad 25, hB11.r (14, 5, 25) (by decide), _, hm11.1.row (k := 4) (by omega), hm11.1.krow (by omega), md_longAt (c := 3) hm11.1 (i := 0) (j := 2) (by omega) rfl rfl rfl (by omega) l0 (fun _ => ?_)⟩
    unfold w_Memory_init
    refine ⟨?_, ?_, fun q1 z1 h2 e2 => ?_⟩
    · have := g11.1; omega
    · have := g11.2; omega
    have s2 : stp [] [] (nown own q10 50) ad (nown (nown own q10 50) q1 51) ad h11 h2 := by rw [e2]; exact stp.new hB11 z1
    obtain ⟨-, -, g2⟩ := s2.bud (rc := rc) (c := 1) (rs := rs) (s := 16) hB11 g11
    have q1n : q1 ≠ q10 := fun e => by rw [e, k11] at z1; cases z1
    have z1h : xb_k h q1 = 0 := by rw [e11, xh_kN, if_neg q1n] at z1; exact z1
    have qn1 : q ≠ q1 := fun e => by rw [← e, kq] at z1h; cases z1h
    have n1' : ∀ k, k < 41 → q1 ≠ ad k := fun k hk e => hB.z k hk (e ▸ z1h)
    have k2 : xb_k h2 q10 = 13 := by rw [e2, xh_kN, if_neg q1n.symm]; exact k11
    refine ⟨k2, fun h5 e5' h6 e6 h7 e7 _ => ?_⟩
    have s7 : stp [] [q10] (nown (nown own q10 50) q1 51) ad (nown (nown own q10 50) q1 51) ad h2 h7 := by
      rw [e7, e6, e5']
      have t1 := stp.P (a := q10) (k := 2) (x := some q1) s2.1 n10
      have t2 := stp.P (a := q10) (k := 0) (x := some (ad 25)) t1.1 n10
      have t3 := stp.L (a := q10) (k := 1) (x := dvs d 4 (3 * 0 + 2)) t2.1
      exact ((t1.tr t2).tr t3).mono (fun k hk => by simp at hk) (fun k hk => by simpa using hk)
    have g7 : bg ad h7 rc rs (bc - 1 - 1) (bs - 4 - 16) := (s7.bud (c := 0) (s := 0) s2.1 g2).2.2
    have k7 : xb_k h7 = xb_k h2 := by rw [e7, e6, e5']; rfl
    have n7' : xb_n h7 = xb_n h2 := by rw [e7, e6, e5']; rfl
    have i7 : ∀ a, a ≠ q10 → a ≠ q1 → xb_i h7 a = xb_i h a := fun a ha hb => by rw [e7, xh_iL, e6, xh_iP, e5', xh_iP, e2, xh_iN, if_neg hb, e11, xh_iN, if_neg ha]
    have i7m : xb_i h7 q10 3 = 0 := by rw [e7, xh_iL, e6, xh_iP, e5', xh_iP, e2, xh_iN, if_neg q1n.symm, e11, xh_iN, if_pos rfl]
    have l7 : ∀ a, a ≠ q10 → a ≠ q1 → xb_l h7 a = xb_l h a := fun a ha hb => by rw [e7, xh_lL, if_neg ha, e6, xh_lP, e5', xh_lP, e2, xh_lN, if_neg hb, e11, xh_lN, if_neg ha]
    have l7m : xb_l h7 q10 1 = dvs d 4 2 := by rw [e7, xh_lL, if_pos rfl, xh_up, if_pos rfl]
    have r7 : ∀ a, a ≠ q10 → a ≠ q1 → xb_r h7 a = xb_r h a := fun a ha hb => by rw [e7, xh_rL, e6, xh_rP, if_neg ha, e5', xh_rP, if_neg ha, e2, xh_rN, if_neg hb, e11, xh_rN, if_neg ha]
    have r7m : xb_r h7 q10 0 = some (ad 25) ∧ xb_r h7 q10 2 = some q1 := by
      constructor
      · rw [e7, xh_rL, e6, xh_rP, if_pos rfl, xh_up, if_pos rfl]
      · rw [e7, xh_rL, e6, xh_rP, if_pos rfl, xh_up, if_neg (by omega), e5', xh_rP, if_pos rfl, xh_up, if_pos rfl]
    clear e7 e6 e5'
    refine ⟨by rw [k7, e2, xh_kN, if_neg qn1, e11, xh_kN, if_neg qn]; exact kq, fun h22 e22 => ?_⟩
    have s22 : stp [] [q] (nown (nown own q10 50) q1 51) ad (nown (nown own q10 50) q1 51) ad h7 h22 := by
      rw [e22]
      exact stp.P s7.1 nq
    have g22 : bg ad h22 rc rs (bc - 1 - 1) (bs - 4 - 16) := (s22.bud (c := 0) (s := 0) s7.1 g7).2.2
    have s0 : stp [] [q] own ad (nown (nown own q10 50) q1 51) ad h h22 := by
      have t := ((s11.tr s2).tr s7).tr s22
      obtain ⟨x1, x2, x3, x4, x5, x6⟩ := t
      refine ⟨x1, fun k _ => x2 k (by simp), x3, x4, fun a ha hx hc => x5 a ha (fun h9 => ?_) (fun k hk => by simp at hk), x6⟩
      simp only [List.nil_append, List.append_nil, List.cons_append, List.mem_cons, List.not_mem_nil, or_false] at h9 hx
      rcases h9 with h9 | h9
      · exact ha (h9 ▸ z10)
      · exact hx h9
    have hm22 : mo (nown (nown own q10 50) q1 51) h22 md d := by
      exact hm.fr2 (fun a ha ho h9 => s0.2.2.2.2.1 a ha (fun h8 => h9 (List.mem_singleton.mp h8)) (fun k hk => by cases hk)) s0.2.2.2.1 (fun a ha ho => by rw [s0.2.2.1 a ha]; exact ho) kq
    have k22 : xb_k h22 = xb_k h2 := by rw [e22, xh_kP, k7]
    have n22 : xb_n h22 = xb_n h2 := by rw [e22, xh_nP, n7']
    have r22q : xb_r h22 q = va_up (xb_r h q) 7 (some q10) := by rw [e22, xh_rP, if_pos rfl, r7 q qn qn1]
    have r22m : xb_r h22 q10 = xb_r h7 q10 := by rw [e22, xh_rP, if_neg qn.symm]
    have i22 : xb_i h22 = xb_i h7 := by rw [e22, xh_iP]
    have l22 : xb_l h22 = xb_l h7 := by rw [e22, xh_lP]
    refine ⟨q10, by rw [r22q, xh_up, if_pos rfl], _, hm22.1.row (k := 4) (by omega), mo_ownLeast hm22 (.inr ⟨rfl, rfl⟩) rfl (fun r26 e26 e26a e26b _ => ?_)⟩
    have hR22 : xr_row h22 (ad 25) 1 (8192 * np) (ad 26) := hR.fr (s0.2.2.2.2.1 _ (hB.z 25 (by omega)) (fun h9 => nq 25 (by omega) (List.mem_singleton.mp h9).symm) (fun k hk => by cases hk)) s0.2.2.2.1
    have km22 : xb_k h22 q10 = 13 := by rw [k22]; exact k2
    have ks22 : xb_k h22 q1 = 102 := by rw [k22, e2, xh_kN, if_pos rfl]
    have ns22 : xb_n h22 q1 = 16 := by rw [n22, e2, xh_nN, if_pos rfl]
    have om22 : nown (nown own q10 50) q1 51 q10 = 50 := by rw [nown_ne q1n.symm]; exact nown_eq
    have os22 : nown (nown own q10 50) q1 51 q1 = 51 := nown_eq
    have lmx : (xb_l h22 q10 1).toInt = -1 ∨ 0 ≤ (xb_l h22 q10 1).toInt ∧ (xb_l h22 q10 1).toInt ≤ 65536 := by
      rw [l22, l7m]
      rcases lmax with h9 | h9
      · exact .inl h9
      · exact .inr ⟨h9.1, lm2⟩
    rw [hm9] at hl e26
    refine wI_grow (np := np) (pc := 0) s0.1 hR22 (by omega) km22 om22 lmx (by rw [r22m]; exact r7m.2) ks22 os22 ns22 (by rw [i22, i7m]; rfl) (by omega) ⟨e26a, e26b⟩ g22 (fun h27 own2 ad2 more bc' bs' r c3 c4 c5 c6 c7 c8 c9 c10 c12 _ c11 _ => ?_) (fun h9 => ?_)
    · obtain rfl : more = m := by omega
      obtain ⟨y1, y2, y3, y4, y5, ⟨y6, y7, y8⟩, y9⟩ := c6
      have a25 := y2 25 (by omega)
      have zq : xb_k h22 q ≠ 0 := by rw [k22, e2, xh_kN, if_neg qn1, e11, xh_kN, if_neg qn]; omega
      have sq := y5 q zq (nq 25 (by omega)) (nq 26 (by omega)) qn qn1
      have sx : xb_r h27 q1 = xb_r h22 q1 ∨ True := .inr trivial
      have st : stp [25, 26] [q10, q1] (nown (nown own q10 50) q1 51) ad own2 ad2 h22 h27 := by
        refine ⟨y1, fun k hk => y2 k (fun e => hk (by rw [e]; simp)), y3, y4, fun a ha hx hc => y5 a ha (hc 25 (by simp)) (hc 26 (by simp)) (fun e => hx (by rw [e]; simp)) (fun e => hx (by rw [e]; simp)), fun k => ?_, fun k hk => y2 k (fun e => hk (by rw [e]; decide))⟩
        by_cases e : k = 26
        · rw [e]; exact y9
        · exact .inl (y2 k e)
      refine hK h27 own2 ad2 bc' bs' ?_ (by rw [a25]; exact c7) (by rw [sq.1, i22, i7 q qn qn1]) (fun j hj => by rw [sq.2.2, r22q, xh_up, if_neg hj]) (.inr ⟨c2, q10, q1, by rw [sq.2.2, r22q, xh_up, if_pos rfl], z10, z1h, y4.k (c := 12) km22, by rw [y3 q10 (by omega)]; exact om22, by rw [y6, r22m]; exact r7m.1, by rw [y7]; exact lmx, by rw [y6, r22m]; exact r7m.2, y4.k (c := 101) ks22, by rw [y3 q1 (by omega)]; exact os22, by rw [y4.n (c := 101) ks22]; exact ns22, by rw [c8]; simp, fun j hj => c10 j (by omega) (by omega), by rw [y7, l22]; exact l7m, fun j hj => by have := c12.1 j (by omega) (by omega); rw [this]; omega⟩) c11 ⟨fun j hj => ?_, fun j h1 h2 => c12.2.2 j h1 h2⟩
      rotate_left
      · rw [c12.2.1 j hj, l22, l7 (ad 26) (n10 26 (by omega)).symm (n1' 26 (by omega)).symm]
      have t := s0.tr st
      obtain ⟨x1, x2, x3, x4, x5, x6⟩ := t
      refine ⟨x1, x2, x3, x4, fun a ha hx hc => x5 a ha (fun h9 => ?_) hc, x6⟩
      simp only [List.nil_append, List.append_nil, List.cons_append, List.mem_cons, List.not_mem_nil, or_false] at h9 hx
      rcases h9 with h9 | h9 | h9
      · exact hx h9
      · exact ha (h9 ▸ z10)
      · exact ha (h9 ▸ z1h)
    · exfalso
      rw [l22, l7m] at h9
      omega
end MK6
