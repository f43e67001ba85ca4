-- the heap by addresses, held against the machine
def xb_val (h : xb_H) (a k d : Nat) : Value := match d with
  | 0 => .int (xb_i h a k)
  | 1 => .long (xb_l h a k)
  | _ => va_rf (xb_r h a k)
def xb_fs (h : xb_H) (a : Nat) : Nat → List Nat → List Value
  | _, [] => []
  | k, d :: t => xb_val h a k d :: xb_fs h a (k + 1) t
theorem xb_fs_at (h : xb_H) (a : Nat) : ∀ (ks : List Nat) (i k d : Nat), ks[k]? = some d → (xb_fs h a i ks)[k]? = some (xb_val h a (i + k) d)
  | [], _, _, _, e => by simp at e
  | d0 :: t, i, 0, d, e => by
    simp at e
    subst e
    rfl
  | d0 :: t, i, k + 1, d, e => by
    have h1 := xb_fs_at h a t (i + 1) k d (by simpa using e)
    have h2 : i + 1 + k = i + (k + 1) := by omega
    rw [h2] at h1
    simpa [xb_fs] using h1
theorem xb_fs_len (h : xb_H) (a : Nat) : ∀ (ks : List Nat) (i : Nat), (xb_fs h a i ks).length = ks.length
  | [], _ => rfl
  | _ :: t, i => by simp [xb_fs, xb_fs_len h a t (i + 1)]
theorem xb_fs_same {h h' : xb_H} {a : Nat} : ∀ (ks : List Nat) (i : Nat), (∀ m, i ≤ m → ∀ d, xb_val h' a m d = xb_val h a m d) → xb_fs h' a i ks = xb_fs h a i ks
  | [], _, _ => rfl
  | d0 :: t, i, e => by
    show xb_val h' a i d0 :: xb_fs h' a (i + 1) t = xb_val h a i d0 :: xb_fs h a (i + 1) t
    rw [e i (Nat.le_refl i) d0, xb_fs_same t (i + 1) (fun m hm d => e m (by omega) d)]
theorem xb_fs_set {h h' : xb_H} {a : Nat} {v : Value} : ∀ (ks : List Nat) (i j d : Nat), ks[j]? = some d → xb_val h' a (i + j) d = v → (∀ m, m ≠ i + j → ∀ d, xb_val h' a m d = xb_val h a m d) → (xb_fs h a i ks).set j v = xb_fs h' a i ks
  | [], _, _, _, e, _, _ => by simp at e
  | d0 :: t, i, 0, d, e, hv, hs => by
    simp at e
    subst e
    show v :: xb_fs h a (i + 1) t = xb_val h' a i d0 :: xb_fs h' a (i + 1) t
    rw [← hv, xb_fs_same t (i + 1) (fun m hm d => hs m (by omega) d)]
    rfl
  | d0 :: t, i, j + 1, d, e, hv, hs => by
    show xb_val h a i d0 :: (xb_fs h a (i + 1) t).set j v = xb_val h' a i d0 :: xb_fs h' a (i + 1) t
    have h2 : i + 1 + j = i + (j + 1) := by omega
    rw [hs i (by omega) d0, xb_fs_set t (i + 1) j d (by simpa using e) (by rw [h2]; exact hv) (fun m hm d => hs m (by omega) d)]
theorem xb_val_eq {h h' : xb_H} {a : Nat} (ei : xb_i h' a = xb_i h a) (el : xb_l h' a = xb_l h a) (er : xb_r h' a = xb_r h a) (m d : Nat) : xb_val h' a m d = xb_val h a m d := by
  simp only [xb_val, ei, el, er]
/-- the fields of each class: 0 a number, 1 a long, 2 a reference -/
def xb_ks (ci : Nat) : List Nat := xb_kt.getD ci []
def xb_ty : Nat → FieldType
  | 100 => .byte
  | 101 => .boolean
  | 102 => .int
  | 103 => .long
  | 104 => .object "StackHost$StackModule"
  | _ => .object "StackHost$Instance"
def xb_el (h : xb_H) (a k : Nat) : (Nat → Int32) ⊕ (Nat → Int64) ⊕ (Nat → UInt32) ⊕ (Nat → UInt64) ⊕ (Nat → Option Nat) :=
  if k = 103 then .inr (.inl (xb_l h a)) else if k < 103 then .inl (xb_i h a) else .inr (.inr (.inr (.inr (xb_r h a))))
/-- the numbers of byte and boolean arrays are such -/
def xb_fit (k : Nat) (f : Nat → Int32) : Prop := (k = 100 → ∀ j, fits .byte (.int (f j)) = true) ∧ (k = 101 → ∀ j, fits .boolean (.int (f j)) = true)
def xb_in (h : xb_H) (tys : List (ClassId × FieldType)) (ws : va_W) (a : Nat) : Prop :=
  (0 < xb_k h a → xb_k h a < 100 → ∃ i : Nat, ws[i]? = some (a, .inr (xb_k h a - 1, xb_fs h a 0 (xb_ks (xb_k h a - 1))))) ∧
  (100 ≤ xb_k h a → ∃ (i t : Nat) (cA : ClassId), ws[i]? = some (a, .inl (cA, xb_n h a, xb_el h a (xb_k h a))) ∧ tys[t]? = some (cA, xb_ty (xb_k h a)) ∧ xb_fit (xb_k h a) (xb_i h a))
def xb_R (D : va_G) (A : Nat → Prop) (h : xb_H) (s : State) (H : Heap) : Prop :=
  ∃ (ws : va_W) (tys : List (ClassId × FieldType)), va_P D xcm ws H ∧ va_D A ws ∧ va_K D xcm tys s ∧ ∀ a, xb_in h tys ws a
theorem xb_R.moved {D : va_G} {A : Nat → Prop} {h : xb_H} {u U : State} {H : Heap} (hvm : u.vm.Alike U.vm) (hR : xb_R D A h u H) : xb_R D A h U H := by
  obtain ⟨ws, tys, h1, h2, h3, h4⟩ := hR
  exact ⟨ws, tys, h1, h2, va_K.moved hvm h3, h4⟩
theorem xb_R.grown {D : va_G} {A : Nat → Prop} {h : xb_H} {s : State} {H H1 : Heap} (hR : xb_R D A h s H) (hq : ∀ q, q < H.size → H1[q]? = H[q]?) : xb_R D A h s H1 := by
  obtain ⟨ws, tys, h1, h2, h3, h4⟩ := hR
  exact ⟨ws, tys, h1.kept (fun k x hx => hq x.1 ((h1 k x hx).lt)), h2, h3, h4⟩
/-- one cell is another one now -/
theorem xb_R.set {D : va_G} {A : Nat → Prop} {h h' : xb_H} {s : State} {H1 : Heap} {ws : va_W} {tys : List (ClassId × FieldType)} {i a : Nat} {e0 e : va_E} (hK : va_K D xcm tys s) (hin : ∀ b, xb_in h tys ws b) (hi : ws[i]? = some (a, e0))
    (hP1 : va_P D xcm (ws.set i (a, e)) H1) (hD1 : va_D A (ws.set i (a, e))) (ek : ∀ b, xb_k h' b = xb_k h b) (en : ∀ b, xb_n h' b = xb_n h b)
    (eo : ∀ b, b ≠ a → xb_i h' b = xb_i h b ∧ xb_l h' b = xb_l h b ∧ xb_r h' b = xb_r h b) (hnew : xb_in h' tys (ws.set i (a, e)) a) : xb_R D A h' s H1 := by
  refine ⟨_, tys, hP1, hD1, hK, fun b => ?_⟩
  by_cases hb : b = a
  · subst hb
    exact hnew
  · obtain ⟨e1, e2, e3⟩ := eo b hb
    have key : ∀ (j : Nat) (x : va_E), ws[j]? = some (b, x) → (ws.set i (a, e))[j]? = some (b, x) := by
      intro j x hj
      rw [List.getElem?_set_ne (fun hij => ?_)]
      · exact hj
      · subst hij
        rw [hi] at hj
        exact hb (Prod.mk.inj (Option.some.inj hj)).1.symm
    obtain ⟨p1, p2⟩ := hin b
    refine ⟨fun q1 q2 => ?_, fun q1 => ?_⟩
    · rw [ek] at q1 q2
      obtain ⟨j, hj⟩ := p1 q1 q2
      refine ⟨j, ?_⟩
      rw [ek, xb_fs_same (h := h) _ 0 (fun m _ d => xb_val_eq e1 e2 e3 m d)]
      exact key j _ hj
    · rw [ek] at q1
      obtain ⟨j, t, cA, hj, ht, hf⟩ := p2 q1
      refine ⟨j, t, cA, ?_, by rw [ek]; exact ht, by rw [ek, e1]; exact hf⟩
      have : xb_el h' b (xb_k h' b) = xb_el h b (xb_k h b) := by rw [ek]; simp only [xb_el, e1, e2, e3]
      rw [en, this]
      exact key j _ hj
/-- a cell more -/
theorem xb_R.pushG {D : va_G} {A : Nat → Prop} {h h' : xb_H} {s : State} {H1 : Heap} {ws : va_W} {tys tys1 : List (ClassId × FieldType)} {q : Nat} {e : va_E} (hin : ∀ b, xb_in h tys ws b) (hK1 : va_K D xcm (tys ++ tys1) s)
    (hP1 : va_P D xcm (ws ++ [(q, e)]) H1) (hD1 : va_D A (ws ++ [(q, e)])) (eo : ∀ b, b ≠ q → xb_k h' b = xb_k h b ∧ xb_n h' b = xb_n h b ∧ xb_i h' b = xb_i h b ∧ xb_l h' b = xb_l h b ∧ xb_r h' b = xb_r h b) (hnew : xb_in h' (tys ++ tys1) (ws ++ [(q, e)]) q) : xb_k h q = 0 ∧ xb_R D A h' s H1 := by
  have last : (ws ++ [(q, e)])[ws.length]? = some (q, e) := by simp
  have low : ∀ (j : Nat) (x : Nat × va_E), ws[j]? = some x → (ws ++ [(q, e)])[j]? = some x := by
    intro j x hj
    rw [List.getElem?_append_left (List.getElem?_eq_some_iff.mp hj).1]
    exact hj
  have away : ∀ (j : Nat) (x : va_E), ws[j]? = some (q, x) → False := by
    intro j x hj
    have h1 := hD1.1 j ws.length _ _ (low j _ hj) last rfl
    have h2 := (List.getElem?_eq_some_iff.mp hj).1
    omega
  refine ⟨?_, _, _, hP1, hD1, hK1, fun b => ?_⟩
  · obtain ⟨p1, p2⟩ := hin q
    apply Classical.byContradiction
    intro hne
    by_cases hk : xb_k h q < 100
    · obtain ⟨j, hj⟩ := p1 (by omega) hk
      exact away j _ hj
    · obtain ⟨j, t, cA, hj, -, -⟩ := p2 (by omega)
      exact away j _ hj
  · by_cases hb : b = q
    · subst hb
      exact hnew
    · obtain ⟨ek, en, e1, e2, e3⟩ := eo b hb
      obtain ⟨p1, p2⟩ := hin b
      refine ⟨fun q1 q2 => ?_, fun q1 => ?_⟩
      · rw [ek] at q1 q2
        obtain ⟨j, hj⟩ := p1 q1 q2
        refine ⟨j, ?_⟩
        rw [ek, xb_fs_same (h := h) _ 0 (fun m _ d => xb_val_eq e1 e2 e3 m d)]
        exact low j _ hj
      · rw [ek] at q1
        obtain ⟨j, t, cA, hj, ht, hf⟩ := p2 q1
        refine ⟨j, t, cA, ?_, ?_, by rw [ek, e1]; exact hf⟩
        · have : xb_el h' b (xb_k h' b) = xb_el h b (xb_k h b) := by rw [ek]; simp only [xb_el, e1, e2, e3]
          rw [en, this]
          exact low j _ hj
        · rw [ek, List.getElem?_append_left (List.getElem?_eq_some_iff.mp ht).1]
          exact ht
theorem xb_R.push {D : va_G} {A : Nat → Prop} {h : xb_H} {s : State} {H1 : Heap} {ws : va_W} {tys tys1 : List (ClassId × FieldType)} {q kd n : Nat} {e : va_E} (hin : ∀ b, xb_in h tys ws b) (hK1 : va_K D xcm (tys ++ tys1) s)
    (hP1 : va_P D xcm (ws ++ [(q, e)]) H1) (hD1 : va_D A (ws ++ [(q, e)])) (hnew : xb_in (xb_new h q kd n) (tys ++ tys1) (ws ++ [(q, e)]) q) : xb_k h q = 0 ∧ xb_R D A (xb_new h q kd n) s H1 :=
  xb_R.pushG hin hK1 hP1 hD1 (fun _ hb => ⟨xb_up_n _ _ hb, xb_up_n _ _ hb, xb_up_n _ _ hb, xb_up_n _ _ hb, xb_up_n _ _ hb⟩) hnew
theorem xb_nIa (h : xb_H) (q kd n : Nat) (f : Nat → Int32) : (∀ b, b ≠ q → xb_k (xb_Ia (xb_new h q kd n) q f) b = xb_k h b ∧ xb_n (xb_Ia (xb_new h q kd n) q f) b = xb_n h b ∧ xb_i (xb_Ia (xb_new h q kd n) q f) b = xb_i h b ∧ xb_l (xb_Ia (xb_new h q kd n) q f) b = xb_l h b ∧ xb_r (xb_Ia (xb_new h q kd n) q f) b = xb_r h b) ∧ xb_k (xb_Ia (xb_new h q kd n) q f) q = kd ∧ xb_n (xb_Ia (xb_new h q kd n) q f) q = n ∧ xb_i (xb_Ia (xb_new h q kd n) q f) q = f :=
  ⟨fun _ hb => ⟨xb_up_n _ _ hb, xb_up_n _ _ hb, (xb_up_n _ _ hb).trans (xb_up_n _ _ hb), xb_up_n _ _ hb, xb_up_n _ _ hb⟩, xb_up_s _ _ _, xb_up_s _ _ _, xb_up_s _ _ _⟩
theorem xb_nLa (h : xb_H) (q kd n : Nat) (f : Nat → Int64) : (∀ b, b ≠ q → xb_k (xb_La (xb_new h q kd n) q f) b = xb_k h b ∧ xb_n (xb_La (xb_new h q kd n) q f) b = xb_n h b ∧ xb_i (xb_La (xb_new h q kd n) q f) b = xb_i h b ∧ xb_l (xb_La (xb_new h q kd n) q f) b = xb_l h b ∧ xb_r (xb_La (xb_new h q kd n) q f) b = xb_r h b) ∧ xb_k (xb_La (xb_new h q kd n) q f) q = kd ∧ xb_n (xb_La (xb_new h q kd n) q f) q = n ∧ xb_l (xb_La (xb_new h q kd n) q f) q = f :=
  ⟨fun _ hb => ⟨xb_up_n _ _ hb, xb_up_n _ _ hb, xb_up_n _ _ hb, (xb_up_n _ _ hb).trans (xb_up_n _ _ hb), xb_up_n _ _ hb⟩, xb_up_s _ _ _, xb_up_s _ _ _, xb_up_s _ _ _⟩
theorem xb_new_k (h : xb_H) (q kd n : Nat) : xb_k (xb_new h q kd n) q = kd := xb_up_s _ _ _
theorem xb_new_n (h : xb_H) (q kd n : Nat) : xb_n (xb_new h q kd n) q = n := xb_up_s _ _ _
theorem xb_new_i (h : xb_H) (q kd n : Nat) : xb_i (xb_new h q kd n) q = fun _ => 0 := xb_up_s _ _ _
theorem xb_new_l (h : xb_H) (q kd n : Nat) : xb_l (xb_new h q kd n) q = fun _ => 0 := xb_up_s _ _ _
theorem xb_new_r (h : xb_H) (q kd n : Nat) : xb_r (xb_new h q kd n) q = fun _ => none := xb_up_s _ _ _
def xb_df (d : Nat) : Value := match d with
  | 0 => .int 0
  | 1 => .long 0
  | _ => .null
theorem xb_fs_new (h : xb_H) (q kd n : Nat) : ∀ (ks : List Nat) (i j d : Nat), ks[j]? = some d → vp_V (xb_fs (xb_new h q kd n) q i ks) j = xb_df d := by
  intro ks i j d hd
  have h1 := xb_fs_at (xb_new h q kd n) q ks i j d hd
  simp only [vp_V, List.getD_eq_getElem?_getD, h1, Option.getD_some, xb_val, xb_new_i, xb_new_l, xb_new_r, va_rf]
  match d with
  | 0 => rfl
  | 1 => rfl
  | d + 2 => rfl
theorem xb_fs_new2 (h h' : xb_H) (q q' kd kd' n n' : Nat) : ∀ (ks : List Nat) (i : Nat), xb_fs (xb_new h q kd n) q i ks = xb_fs (xb_new h' q' kd' n') q' i ks
  | [], _ => rfl
  | d :: t, i => by
    show xb_val _ q i d :: xb_fs _ q (i + 1) t = xb_val _ q' i d :: xb_fs _ q' (i + 1) t
    rw [xb_fs_new2 h h' q q' kd kd' n n' t (i + 1)]
    simp only [xb_val, xb_new_i, xb_new_l, xb_new_r]
