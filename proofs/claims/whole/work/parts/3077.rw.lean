-- the class's own rows
/-- the most that a row may hold -/
def rM (r : Nat) : Nat := if r = 16 then 1000 else if r = 19 then 8192 else if r = 21 then 4096 else if r = 23 then 16384 else if r = 25 then 131072 else if r = 27 then 4096 else if r = 29 then 1800 else 20000
def rwl : List Nat := [16, 19, 21, 23, 25, 27, 29, 32, 34]
/-- the room that a row may still take -/
def rP (h : xb_H) (ad : Nat → Nat) (r : Nat) : Nat := 4 * rM r - 2 * xb_n h (ad (r + 1))
def s9 (f : Nat → Nat) : Nat := f 16 + f 19 + f 21 + f 23 + f 25 + f 27 + f 29 + f 32 + f 34
theorem s9_up (f g : Nat → Nat) (r : Nat) (hr : r ∈ rwl) (h : ∀ j ∈ rwl, j ≠ r → g j = f j) : s9 g + f r = s9 f + g r := by
  unfold s9
  have hh : ∀ j, j ∈ rwl → j ≠ r → g j = f j := h
  simp only [rwl, List.mem_cons, List.not_mem_nil, or_false] at hr
  have e16 := hh 16 (by decide)
  have e19 := hh 19 (by decide)
  have e21 := hh 21 (by decide)
  have e23 := hh 23 (by decide)
  have e25 := hh 25 (by decide)
  have e27 := hh 27 (by decide)
  have e29 := hh 29 (by decide)
  have e32 := hh 32 (by decide)
  have e34 := hh 34 (by decide)
  rcases hr with e | e | e | e | e | e | e | e | e <;> subst e <;> simp only [ne_eq, Nat.reduceEqDiff, not_false_eq_true, forall_const, not_true_eq_false, false_implies] at * <;> omega
/-- room enough for all rows, and for the rest -/
def bg (ad : Nat → Nat) (h : xb_H) (rc rs bc bs : Nat) : Prop := rc + s9 (fun r => rP h ad r / 8) ≤ bc ∧ rs + s9 (rP h ad) ≤ bs
/-- q has come in the place of component k -/
def rown (own : Nat → Nat) (h : xb_H) (q t : Nat) : Nat → Nat := fun a => if a = q ∧ xb_k h a = 0 then t else own a
theorem rown_old {own : Nat → Nat} {h : xb_H} {q t a : Nat} (ha : xb_k h a ≠ 0) : rown own h q t a = own a := if_neg (fun e => ha e.2)
theorem rwl_k : ∀ r ∈ rwl, (r + 1) < 41 ∧ kdl (r + 1) = 103 ∧ kdl r = 2 ∧ (r, 0, r + 1) ∈ cRl ∧ ∀ e ∈ cRl, (e.1 = r → e = (r, 0, r + 1)) ∧ (e.2.2 = r + 1 → e = (r, 0, r + 1)) ∧ e.1 ≠ r + 1 := by decide
theorem cRl_lt : ∀ e ∈ cRl, e.1 < 41 ∧ e.2.2 < 41 := by decide
section RW
variable {own ad : Nat → Nat} {h h' : xb_H}
theorem cB.row {r q : Nat} (hr : r ∈ rwl) (hB : cB own ad h) (he : xb_ext h h') (hf : ∀ a, xb_k h a ≠ 0 → a ≠ ad r → a ≠ ad (r + 1) → xb_r h' a = xb_r h a) (h0 : xb_r h' (ad r) 0 = some q) (kq : xb_k h' q = 103) (hq : q = ad (r + 1) ∨ xb_k h q = 0) : cB (rown own h q (r + 3)) (va_up ad (r + 1) q) h' := by
  obtain ⟨r1, r2, r3, r4, r5⟩ := rwl_k r hr
  refine ⟨fun k hk => ?_, fun e he9 => ?_⟩
  · by_cases e : k = r + 1
    · subst e
      rw [xh_up, if_pos rfl]
      refine ⟨?_, by rw [kq, r2]⟩
      unfold rown
      split
      · rfl
      · rename_i h9
        rcases hq with e | e
        · rw [e]
          exact hB.o (r + 1) r1
        · exact absurd ⟨rfl, e⟩ h9
    · rw [xh_up, if_neg e, rown_old (hB.z k hk)]
      exact ⟨hB.o k hk, by rw [(he _ (hB.z k hk)).1]; exact hB.k k hk⟩
  · obtain ⟨c1, c2⟩ := cRl_lt e he9
    obtain ⟨d1, d2, d3⟩ := r5 e he9
    rw [xh_up, if_neg d3]
    by_cases e1 : e.1 = r
    · have e2 := d1 e1
      subst e2
      rw [xh_up, if_pos rfl]
      exact h0
    · rw [xh_up, if_neg (fun e2 => e1 (by rw [d2 e2])), hf _ (hB.z _ c1) (hB.ne c1 (by omega) e1) (hB.ne c1 r1 d3)]
      exact hB.r e he9
theorem rP_le {r n w : Nat} (hw : n ≤ w) (hM : w ≤ rM r) (h4 : 4 ≤ xb_n h (ad (r + 1))) : xr_cost w (xb_n h (ad (r + 1))) + (4 * rM r - 2 * max (xb_n h (ad (r + 1))) (xr_cost w (xb_n h (ad (r + 1))))) ≤ rP h ad r ∧ xr_cell w (xb_n h (ad (r + 1))) + (4 * rM r - 2 * max (xb_n h (ad (r + 1))) (xr_cost w (xb_n h (ad (r + 1))))) / 8 ≤ rP h ad r / 8 := by
  unfold xr_cost xr_cell rP
  split
  · simp
  · rename_i h9
    generalize xb_n h (ad (r + 1)) = c at *
    generalize rM r = m at *
    have e1 : max c (max w (2 * c)) = max w (2 * c) := by omega
    rw [e1]
    constructor
    · omega
    · omega
theorem bg.up {r rc rs bc bs q w : Nat} (hr : r ∈ rwl) (hB : cB own ad h) (he : xb_ext h h') (hg : bg ad h rc rs bc bs) (hM : w ≤ rM r) (h4 : 4 ≤ xb_n h (ad (r + 1))) (hn : xb_n h' q = max (xb_n h (ad (r + 1))) (xr_cost w (xb_n h (ad (r + 1))))) : xr_cell w (xb_n h (ad (r + 1))) ≤ bc ∧ xr_cost w (xb_n h (ad (r + 1))) ≤ bs ∧ bg (va_up ad (r + 1) q) h' rc rs (bc - xr_cell w (xb_n h (ad (r + 1)))) (bs - xr_cost w (xb_n h (ad (r + 1)))) := by
  obtain ⟨g1, g2⟩ := hg
  obtain ⟨p1, p2⟩ := rP_le (ad := ad) (h := h) (r := r) (n := w) (Nat.le_refl w) hM h4
  obtain ⟨r1, r2, r3, r4, r5⟩ := rwl_k r hr
  have oth : ∀ j ∈ rwl, j ≠ r → rP h' (va_up ad (r + 1) q) j = rP h ad j := fun j hj hne => by
    obtain ⟨j1, j2, -⟩ := rwl_k j hj
    unfold rP
    rw [xh_up, if_neg (by omega), (he _ (hB.z (j + 1) j1)).2]
  have slf : rP h' (va_up ad (r + 1) q) r = 4 * rM r - 2 * max (xb_n h (ad (r + 1))) (xr_cost w (xb_n h (ad (r + 1)))) := by
    unfold rP
    rw [xh_up, if_pos rfl, hn]
  have s1 := s9_up (rP h ad) (rP h' (va_up ad (r + 1) q)) r hr oth
  have s2 := s9_up (fun j => rP h ad j / 8) (fun j => rP h' (va_up ad (r + 1) q) j / 8) r hr (fun j hj hne => by show _ / 8 = _ / 8; rw [oth j hj hne])
  rw [slf] at s1
  rw [slf] at s2
  unfold bg
  omega
theorem bg.can {r rc rs bc bs w : Nat} (hr : r ∈ rwl) (hg : bg ad h rc rs bc bs) (hM : w ≤ rM r) (h4 : 4 ≤ xb_n h (ad (r + 1))) : xr_cell w (xb_n h (ad (r + 1))) ≤ bc ∧ xr_cost w (xb_n h (ad (r + 1))) ≤ bs := by
  obtain ⟨g1, g2⟩ := hg
  obtain ⟨p1, p2⟩ := rP_le (ad := ad) (h := h) (r := r) (n := w) (Nat.le_refl w) hM h4
  have s1 := s9_up (rP h ad) (fun j => if j = r then 0 else rP h ad j) r hr (fun j _ hne => if_neg hne)
  have s2 := s9_up (fun j => rP h ad j / 8) (fun j => if j = r then 0 else rP h ad j / 8) r hr (fun j _ hne => if_neg hne)
  simp only [if_true] at s1 s2
  omega
theorem rM_le (r : Nat) : rM r ≤ 131072 := by
  unfold rM
  repeat' split
  all_goals omega
/-- one more item -/
theorem wr_add {r c n rc rs bc bs : Nat} {x : Int64} {Qr : xb_H → Nat → Nat → Prop} (hr : r ∈ rwl) (hB : cB own ad h) (hR : xr_row h (ad r) c n (ad (r + 1))) (hn : n < rM r) (hg : bg ad h rc rs bc bs)
    (hQ : ∀ (h' : xb_H) (q bc' bs' : Nat), cB (rown own h q (r + 3)) (va_up ad (r + 1) q) h' → xr_row h' (ad r) c (n + 1) q → (∀ j, j < n → xb_l h' q j = xb_l h (ad (r + 1)) j) → xb_l h' q n = x → (q = ad (r + 1) ∨ xb_k h q = 0) → (∀ a, xb_k h a ≠ 0 → a ≠ ad r → a ≠ ad (r + 1) → xh_sm h h' a) → xb_ext h h' → bg (va_up ad (r + 1) q) h' rc rs bc' bs' → Qr h' bc' bs') : w_Row_add (ad r) x h bc bs Qr := by
  have hM := rM_le r
  obtain ⟨b1, b2, b3, b4, b5, b6, b7, b8⟩ := id hR
  obtain ⟨u1, u2⟩ := bg.can (w := n + 1) hr hg (by omega) b7
  refine sp_Row_add hR (by omega) u1 u2 (fun h' q f1 f2 f3 f4 f5 f6 f7 => ?_)
  obtain ⟨-, -, u3⟩ := bg.up (q := q) (h' := h') (w := n + 1) hr hB f7 hg (by omega) b7 f2
  exact hQ h' q _ _ (cB.row hr hB f7 (fun a ha h9 h8 => (f6 a ha h9 h8).2.2) f1.2.2.2.1 f1.2.2.2.2.1 f5) f1 f3 f4 f5 f6 f7 u3
theorem wr_room {r c n w rc rs bc bs : Nat} {x : Int32} {Qr : xb_H → Nat → Nat → Prop} (hr : r ∈ rwl) (hB : cB own ad h) (hR : xr_row h (ad r) c n (ad (r + 1))) (hx : x.toInt = w) (hw : w ≤ rM r) (hg : bg ad h rc rs bc bs)
    (hQ : ∀ (h' : xb_H) (q bc' bs' : Nat), cB (rown own h q (r + 3)) (va_up ad (r + 1) q) h' → xr_row h' (ad r) c n q → w ≤ xb_n h' q → (∀ j, j < xb_n h (ad (r + 1)) → xb_l h' q j = xb_l h (ad (r + 1)) j) → (q = ad (r + 1) ∨ xb_k h q = 0) → xb_i h' (ad r) = xb_i h (ad r) → (∀ a, xb_k h a ≠ 0 → a ≠ ad r → xh_sm h h' a) → xb_ext h h' → bg (va_up ad (r + 1) q) h' rc rs bc' bs' → Qr h' bc' bs') : w_Row_makeRoom (ad r) x h bc bs Qr := by
  have hM := rM_le r
  obtain ⟨b1, b2, b3, b4, b5, b6, b7, b8⟩ := id hR
  obtain ⟨u1, u2⟩ := bg.can (w := w) hr hg hw b7
  refine sp_Row_makeRoom hR hx (by omega) u1 u2 (fun h' q f1 f2 f3 f4 f5 f6 f7 f8 => ?_)
  obtain ⟨-, -, u3⟩ := bg.up (q := q) (h' := h') (w := w) hr hB f8 hg hw b7 f3
  exact hQ h' q _ _ (cB.row hr hB f8 (fun a ha h9 _ => (f7 a ha h9).2.2) f1.2.2.2.1 f1.2.2.2.2.1 f5) f1 f2 f4 f5 f6 f7 f8 u3
/-- many more items -/
theorem wr_many {r c n k rc rs bc bs : Nat} {x : Int32} {y : Int64} {Qr : xb_H → Nat → Nat → Prop} (hr : r ∈ rwl) (hB : cB own ad h) (hR : xr_row h (ad r) c n (ad (r + 1))) (hx : x.toInt = k) (hw : n + k ≤ rM r) (hg : bg ad h rc rs bc bs)
    (hQ : ∀ (h' : xb_H) (q bc' bs' : Nat), cB (rown own h q (r + 3)) (va_up ad (r + 1) q) h' → xr_row h' (ad r) c (n + k) q → (∀ j, j < n → xb_l h' q j = xb_l h (ad (r + 1)) j) → (∀ j, n ≤ j → j < n + k → xb_l h' q j = y) → (q = ad (r + 1) ∨ xb_k h q = 0) → (∀ a, xb_k h a ≠ 0 → a ≠ ad r → a ≠ ad (r + 1) → xh_sm h h' a) → xb_ext h h' → bg (va_up ad (r + 1) q) h' rc rs bc' bs' → Qr h' bc' bs') : w_Row_addMany (ad r) x y h bc bs Qr := by
  have hM := rM_le r
  obtain ⟨b1, b2, b3, b4, b5, b6, b7, b8⟩ := id hR
  have e1 : (xb_i h (ad r) 1 + x).toInt = (n + k : Nat) := by rw [z_add, b3, hx]; omega
  unfold w_Row_addMany
  refine ⟨b1, wr_room hr hB hR e1 hw hg (fun h2 q bc' bs' f1 f2 f3 f4 f5 f6 f7 f8 f9 _ => ?_)⟩
  obtain ⟨c1, c2, c3, c4, c5, c6, c7, c8⟩ := id f2
  refine ⟨q, c4, ?_⟩
  have e2 : (xb_i h2 (ad r) 1 + x).toInt = (n + k : Nat) := by rw [z_add, c3, hx]; omega
  have hne : q ≠ ad r := f2.ne
  refine sp_fill1 c5 (by omega) (by omega) (by omega) (by omega) (fun f g1 g2 _ h7 e7 => ?_)
  have e3 : xb_i (xb_La h2 q f) = xb_i h2 := rfl
  rw [e3] at e7
  have k7 : xb_k h7 = xb_k h2 := by rw [e7]; rfl
  have n7 : xb_n h7 = xb_n h2 := by rw [e7]; rfl
  have r7 : xb_r h7 = xb_r h2 := by rw [e7]; rfl
  have i7 : ∀ a, a ≠ ad r → xb_i h7 a = xb_i h2 a := fun a ha => by rw [e7, xh_iI, if_neg ha, e3]
  have ix7 : xb_i h7 (ad r) = va_up (xb_i h2 (ad r)) 1 (xb_i h2 (ad r) 1 + x) := by rw [e7, xh_iI, if_pos rfl, e3]
  have l7 : ∀ a, a ≠ q → xb_l h7 a = xb_l h2 a := fun a ha => by rw [e7, xh_lI, xh_lLa, if_neg ha]
  have lq7 : xb_l h7 q = f := by rw [e7, xh_lI, xh_lLa, if_pos rfl]
  have ex7 : xb_ext h2 h7 := fun a _ => ⟨by rw [k7], by rw [n7]⟩
  rw [c3, e2] at g1 g2
  obtain ⟨B1, B2⟩ := f1
  refine hQ h7 q bc' bs' ⟨fun j hj => ⟨(B1 j hj).1, by rw [k7]; exact (B1 j hj).2⟩, fun e he => by rw [r7]; exact B2 e he⟩ ⟨by rw [k7]; exact c1, by rw [ix7, xh_up, if_neg (by omega)]; exact c2, by rw [ix7, xh_up, if_pos rfl]; exact e2, by rw [r7]; exact c4, by rw [k7]; exact c5, by rw [n7]; exact f3, by rw [n7]; exact c7, by rw [n7]; exact c8⟩ (fun j hj => ?_) (fun j h1 h2 => ?_) f5 (fun a ha h1 h2 => ?_) (f8.tr ex7) ?_
  · rw [lq7, g2 j (.inl (by omega))]
    exact f4 j (by omega)
  · rw [lq7]
    exact g1 j (by omega) (by omega)
  · have haq : a ≠ q := by
      rcases f5 with e | e
      · rw [e]; exact h2
      · exact fun e' => ha (e' ▸ e)
    exact (f7 a ha h1).tr ⟨i7 a h1, l7 a haq, by rw [r7]⟩
  · have : rP h7 (va_up ad (r + 1) q) = rP h2 (va_up ad (r + 1) q) := by
      funext j
      unfold rP
      rw [n7]
    unfold bg
    rw [this]
    exact f9
end RW
